/-! Functions of the methods, and that the small machine does what they say: written by a program (wip/whole/dec). -/
def t_X9_leavesOf (c1_1 : Int32) : Int32 := ((((t_X5_size c1_1) + (4 : Int32)) - (1 : Int32)) / (4 : Int32))
theorem C_X9_leavesOf {S : Nat × (Nat → Int32)} {d : Nat} {H : List xE} {z : Bool × Nat × Nat} {c1_1 : Int32} (u_1 : H[1]? = some (.inr (4, [.ref 2, .int c1_1]))) : Cm S (d + 1) 82 [.ref 1] (H, z) (.inr (some (.int (t_X9_leavesOf c1_1))), (H, z)) := by
  have G : ∀ x, t_X9_leavesOf c1_1 = x → Go S (d + 1) 82 (0, [some (.ref 1)], []) (H, z) (fun _ _ => False) (fun r => r = (.inr (some (.int x)), (H, z))) := by
    intro x h
    unfold t_X9_leavesOf at h
    refine go_step (fun _ => ev_run 1 (F' := (1, [some (.ref 1)], [.ref 1])) rfl) ?_
    refine go_step (F1 := (4, [some (.ref 1)], [.int (t_X5_size c1_1)])) (M1 := (H, z)) (fun _ => ev_callV (x := (.invokevirtual 17, 3, 53, 4, 1145, .null)) (as := []) (rest := []) rfl rfl u_1 (C_X5_size (S := S) (d := d) (z := z) u_1) rfl) ?_
    refine go_step (fun _ => ev_run 5 (F' := (9, [some (.ref 1)], [.int (4 : Int32), .int (((t_X5_size c1_1) + (4 : Int32)) - (1 : Int32))])) rfl) ?_
    refine go_step (fun _ => ev_div rfl (by decide)) ?_
    cases h
    exact Or.inr ⟨_, ev_ret rfl rfl rfl rfl, rfl⟩
  obtain ⟨_, hE, rfl⟩ := go_end (G _ rfl)
  exact hE
def t_X9_setSum (x1 : Int32) (x2 : Int32) (x3 : Int64) (a46 : Nat → Int64) : Nat → Int64 := (if (((16 : Int32) * x1) + x2) < (0 : Int32) then a46 else (if (nI 80) ≤ (((16 : Int32) * x1) + x2) then a46 else (vp_updL a46 (((16 : Int32) * x1) + x2).toNatClampNeg x3)))
theorem C_X9_setSum {S : Nat × (Nat → Int32)} {d : Nat} {H : List xE} {z : Bool × Nat × Nat} {c45_2 : Int32} {a46 : Nat → Int64} {x1 : Int32} {x2 : Int32} {x3 : Int64} (u_45 : H[45]? = some (.inr (8, [.ref 46, .ref 47, .int c45_2]))) (u_46 : H[46]? = some (.inl (1, 80, .inr (.inl a46)))) : ∃ H' : List xE, Cm S d 90 [.ref 45, .int x1, .int x2, .long x3] (H, z) (.inr none, (H', z)) ∧ H'[46]? = some (.inl (1, 80, .inr (.inl (t_X9_setSum x1 x2 x3 a46)))) ∧ xfr [46] H H' := by
  have G : ∀ x, t_X9_setSum x1 x2 x3 a46 = x → Go S d 90 (0, [some (.ref 45), some (.int x1), some (.int x2), some (.long x3), none, none], []) (H, z) (fun _ _ => False) (fun r => ∃ H' : List xE, r = (.inr none, (H', z)) ∧ H'[46]? = some (.inl (1, 80, .inr (.inl x))) ∧ xfr [46] H H') := by
    intro x h
    unfold t_X9_setSum at h
    refine go_step (fun _ => ev_run 7 (F' := (10, [some (.ref 45), some (.int x1), some (.int x2), some (.long x3), none, some (.int (((16 : Int32) * x1) + x2))], [.int (((16 : Int32) * x1) + x2)])) rfl) ?_
    refine go_if rfl (fun (b10 : (((16 : Int32) * x1) + x2) < (0 : Int32)) => ?_) (fun (b10 : ¬ ((((16 : Int32) * x1) + x2) < (0 : Int32))) => ?_)
    · have h := (if_pos b10).symm.trans h
      cases h
      exact Or.inr ⟨_, ev_ret rfl rfl rfl rfl, H, rfl, u_46, xfr_refl⟩
    · have h := (if_neg b10).symm.trans h
      refine go_step (fun _ => ev_run 2 (F' := (16, [some (.ref 45), some (.int x1), some (.int x2), some (.long x3), none, some (.int (((16 : Int32) * x1) + x2))], [.ref 45, .int (((16 : Int32) * x1) + x2)])) rfl) ?_
      refine go_step (fun _ => ev_getf rfl u_45 rfl) ?_
      refine go_step (fun _ => ev_alen rfl u_46 rfl) ?_
      refine go_icmp rfl (fun (b20 : (nI 80) ≤ (((16 : Int32) * x1) + x2)) => ?_) (fun (b20 : ¬ ((nI 80) ≤ (((16 : Int32) * x1) + x2))) => ?_)
      · have h := (if_pos b20).symm.trans h
        cases h
        exact Or.inr ⟨_, ev_ret rfl rfl rfl rfl, H, rfl, u_46, xfr_refl⟩
      · have h := (if_neg b20).symm.trans h
        refine go_step (fun _ => ev_run 1 (F' := (24, [some (.ref 45), some (.int x1), some (.int x2), some (.long x3), none, some (.int (((16 : Int32) * x1) + x2))], [.ref 45])) rfl) ?_
        refine go_step (fun _ => ev_getf rfl u_45 rfl) ?_
        refine go_step (fun _ => ev_run 2 (F' := (30, [some (.ref 45), some (.int x1), some (.int x2), some (.long x3), none, some (.int (((16 : Int32) * x1) + x2))], [.long x3, .int (((16 : Int32) * x1) + x2), .ref 46])) rfl) ?_
        refine go_last rfl u_46 (xin_of (by decide) b10 b20) (fun H1 (eH1 : H1[46]? = some (.inl (1, 80, .inr (.inl (vp_updL a46 (((16 : Int32) * x1) + x2).toNatClampNeg x3))))) fH1 => ?_)
        cases h
        exact Or.inr ⟨_, ev_ret rfl rfl rfl rfl, H1, rfl, eH1, (xfr_t xfr_refl rfl fH1)⟩
  obtain ⟨_, hE, H', rfl, hrest⟩ := go_end (G _ rfl)
  exact ⟨H', hE, hrest⟩
def t_X9_sumAt (x1 : Int32) (x2 : Int32) (a46 : Nat → Int64) : Int64 := (if (((16 : Int32) * x1) + x2) < (0 : Int32) then (0 : Int64) else (if (nI 80) ≤ (((16 : Int32) * x1) + x2) then (0 : Int64) else (a46 (((16 : Int32) * x1) + x2).toNatClampNeg)))
theorem C_X9_sumAt {S : Nat × (Nat → Int32)} {d : Nat} {H : List xE} {z : Bool × Nat × Nat} {c45_2 : Int32} {a46 : Nat → Int64} {x1 : Int32} {x2 : Int32} (u_45 : H[45]? = some (.inr (8, [.ref 46, .ref 47, .int c45_2]))) (u_46 : H[46]? = some (.inl (1, 80, .inr (.inl a46)))) : Cm S d 89 [.ref 45, .int x1, .int x2] (H, z) (.inr (some (.long (t_X9_sumAt x1 x2 a46))), (H, z)) := by
  have G : ∀ x, t_X9_sumAt x1 x2 a46 = x → Go S d 89 (0, [some (.ref 45), some (.int x1), some (.int x2), none], []) (H, z) (fun _ _ => False) (fun r => r = (.inr (some (.long x)), (H, z))) := by
    intro x h
    unfold t_X9_sumAt at h
    refine go_step (fun _ => ev_run 7 (F' := (8, [some (.ref 45), some (.int x1), some (.int x2), some (.int (((16 : Int32) * x1) + x2))], [.int (((16 : Int32) * x1) + x2)])) rfl) ?_
    refine go_if rfl (fun (b8 : (((16 : Int32) * x1) + x2) < (0 : Int32)) => ?_) (fun (b8 : ¬ ((((16 : Int32) * x1) + x2) < (0 : Int32))) => ?_)
    · have h := (if_pos b8).symm.trans h
      refine go_step (fun _ => ev_run 1 (F' := (30, [some (.ref 45), some (.int x1), some (.int x2), some (.int (((16 : Int32) * x1) + x2))], [.long (0 : Int64)])) rfl) ?_
      cases h
      exact Or.inr ⟨_, ev_ret rfl rfl rfl rfl, rfl⟩
    · have h := (if_neg b8).symm.trans h
      refine go_step (fun _ => ev_run 2 (F' := (13, [some (.ref 45), some (.int x1), some (.int x2), some (.int (((16 : Int32) * x1) + x2))], [.ref 45, .int (((16 : Int32) * x1) + x2)])) rfl) ?_
      refine go_step (fun _ => ev_getf rfl u_45 rfl) ?_
      refine go_step (fun _ => ev_alen rfl u_46 rfl) ?_
      refine go_icmp rfl (fun (b17 : (nI 80) ≤ (((16 : Int32) * x1) + x2)) => ?_) (fun (b17 : ¬ ((nI 80) ≤ (((16 : Int32) * x1) + x2))) => ?_)
      · have h := (if_pos b17).symm.trans h
        refine go_step (fun _ => ev_run 1 (F' := (30, [some (.ref 45), some (.int x1), some (.int x2), some (.int (((16 : Int32) * x1) + x2))], [.long (0 : Int64)])) rfl) ?_
        cases h
        exact Or.inr ⟨_, ev_ret rfl rfl rfl rfl, rfl⟩
      · have h := (if_neg b17).symm.trans h
        refine go_step (fun _ => ev_run 1 (F' := (21, [some (.ref 45), some (.int x1), some (.int x2), some (.int (((16 : Int32) * x1) + x2))], [.ref 45])) rfl) ?_
        refine go_step (fun _ => ev_getf rfl u_45 rfl) ?_
        refine go_step (fun _ => ev_run 1 (F' := (25, [some (.ref 45), some (.int x1), some (.int x2), some (.int (((16 : Int32) * x1) + x2))], [.int (((16 : Int32) * x1) + x2), .ref 46])) rfl) ?_
        refine go_step (fun _ => ev_lald rfl u_46 (xin_of (by decide) b8 b17)) ?_
        refine go_step (fun _ => ev_run 1 (F' := (30, [some (.ref 45), some (.int x1), some (.int x2), some (.int (((16 : Int32) * x1) + x2))], [.long (a46 (((16 : Int32) * x1) + x2).toNatClampNeg)])) rfl) ?_
        cases h
        exact Or.inr ⟨_, ev_ret rfl rfl rfl rfl, rfl⟩
  obtain ⟨_, hE, rfl⟩ := go_end (G _ rfl)
  exact hE
def q_X9_growLevel_L2 (x1 : Int32) (x2 : Int32) : Nat → Int32 → (Nat → Int64) → Option (Int32 × (Nat → Int64))
  | 0, _, _ => none
  | n + 1, l3, a46 => (if x2 ≤ l3 then (some (l3, a46)) else (if x2 ≤ (l3 + (1 : Int32)) then (q_X9_growLevel_L2 x1 x2 n (l3 + (2 : Int32)) (t_X9_setSum x1 (l3 / (2 : Int32)) (t_X9_sumAt (x1 - (1 : Int32)) l3 a46) a46)) else ((q_X2_sumOfPair (t_X9_sumAt (x1 - (1 : Int32)) l3 a46) (t_X9_sumAt (x1 - (1 : Int32)) (l3 + (1 : Int32)) a46)).bind (fun y2 => (q_X9_growLevel_L2 x1 x2 n (l3 + (2 : Int32)) (t_X9_setSum x1 (l3 / (2 : Int32)) y2 a46))))))
def q_X9_growLevel (x1 : Int32) (x2 : Int32) (a46 : Nat → Int64) : Option (Nat → Int64) := ((q_X9_growLevel_L2 x1 x2 10000 (0 : Int32) a46).bind (fun y1 => (some y1.2)))
theorem L_X9_growLevel_L2 {S : Nat × (Nat → Int32)} {d : Nat} {z : Bool × Nat × Nat} {c45_2 : Int32} {x1 : Int32} {x2 : Int32} {H0 : List xE} (u_45 : H0[45]? = some (.inr (8, [.ref 46, .ref 47, .int c45_2]))) : ∀ (n : Nat) (l3 : Int32) (a46 : Nat → Int64) (H : List xE), xfr [46] H0 H → H[46]? = some (.inl (1, 80, .inr (.inl a46))) → ∀ x, q_X9_growLevel_L2 x1 x2 n l3 a46 = some x → Go S (d + 3) 88 (2, [some (.ref 45), some (.int x1), some (.int x2), some (.int l3), none, none], []) (H, z) (fun F' M' => ∃ H' : List xE, F' = (58, [none, none, none, none, none, none], []) ∧ M' = (H', z) ∧ H'[46]? = some (.inl (1, 80, .inr (.inl x.2))) ∧ xfr [46] H0 H') (fun _ => False) := by
  intro n
  induction n with
  | zero =>
    intro l3 a46 H fr e_46 x h
    unfold q_X9_growLevel_L2 at h
    cases h
  | succ n ih =>
    intro l3 a46 H fr e_46 x h
    unfold q_X9_growLevel_L2 at h
    refine go_step (fun _ => ev_run 2 (F' := (4, [some (.ref 45), some (.int x1), some (.int x2), some (.int l3), none, none], [.int x2, .int l3])) rfl) ?_
    refine go_icmp rfl (fun (b4 : x2 ≤ l3) => ?_) (fun (b4 : ¬ (x2 ≤ l3)) => ?_)
    · have h := (if_pos b4).symm.trans h
      refine go_step (fun _ => ev_forget (L' := [none, none, none, none, none, none]) (show xleP _ [some (.ref 45), some (.int x1), some (.int x2), some (.int l3), none, none] from trivial) rfl) ?_
      cases h
      exact Or.inl ⟨_, _, fun r hr => hr, H, rfl, rfl, e_46, fr⟩
    · have h := (if_neg b4).symm.trans h
      refine go_step (fun _ => ev_run 5 (F' := (12, [some (.ref 45), some (.int x1), some (.int x2), some (.int l3), none, none], [.int l3, .int (x1 - (1 : Int32)), .ref 45])) rfl) ?_
      refine go_step (F1 := (15, [some (.ref 45), some (.int x1), some (.int x2), some (.int l3), none, none], [.long (t_X9_sumAt (x1 - (1 : Int32)) l3 a46)])) (M1 := (H, z)) (fun _ => ev_callV (x := (.invokevirtual 51, 3, 89, 8, 1156, .null)) (as := [.int (x1 - (1 : Int32)), .int l3]) (rest := []) rfl rfl ((fr 45 rfl).trans u_45) (C_X9_sumAt (S := S) (d := d + 2) (z := z) (x1 := (x1 - (1 : Int32))) (x2 := l3) ((fr 45 rfl).trans u_45) e_46) rfl) ?_
      refine go_step (fun _ => ev_run 5 (F' := (21, [some (.ref 45), some (.int x1), some (.int x2), some (.int l3), some (.long (t_X9_sumAt (x1 - (1 : Int32)) l3 a46)), none], [.int (2 : Int32), .int l3, .int x1, .ref 45])) rfl) ?_
      refine go_step (fun _ => ev_div rfl (by decide)) ?_
      refine go_step (fun _ => ev_run 4 (F' := (26, [some (.ref 45), some (.int x1), some (.int x2), some (.int l3), some (.long (t_X9_sumAt (x1 - (1 : Int32)) l3 a46)), none], [.int x2, .int (l3 + (1 : Int32)), .int (l3 / (2 : Int32)), .int x1, .ref 45])) rfl) ?_
      refine go_icmp rfl (fun (b26 : x2 ≤ (l3 + (1 : Int32))) => ?_) (fun (b26 : ¬ (x2 ≤ (l3 + (1 : Int32)))) => ?_)
      · have h := (if_pos b26).symm.trans h
        refine go_step (fun _ => ev_run 1 (F' := (49, [some (.ref 45), some (.int x1), some (.int x2), some (.int l3), some (.long (t_X9_sumAt (x1 - (1 : Int32)) l3 a46)), none], [.long (t_X9_sumAt (x1 - (1 : Int32)) l3 a46), .int (l3 / (2 : Int32)), .int x1, .ref 45])) rfl) ?_
        obtain ⟨H1, hCH1, eH1_46, fH1⟩ := C_X9_setSum (S := S) (d := d + 2) (z := z) (x1 := x1) (x2 := (l3 / (2 : Int32))) (x3 := (t_X9_sumAt (x1 - (1 : Int32)) l3 a46)) ((fr 45 rfl).trans u_45) e_46
        refine go_step (F1 := (52, [some (.ref 45), some (.int x1), some (.int x2), some (.int l3), some (.long (t_X9_sumAt (x1 - (1 : Int32)) l3 a46)), none], [])) (M1 := (H1, z)) (fun _ => ev_callV (x := (.invokevirtual 39, 3, 90, 8, 1148, .null)) (as := [.int x1, .int (l3 / (2 : Int32)), .long (t_X9_sumAt (x1 - (1 : Int32)) l3 a46)]) (rest := []) rfl rfl ((fr 45 rfl).trans u_45) hCH1 rfl) ?_
        refine go_step (fun _ => ev_run 2 (F' := (2, [some (.ref 45), some (.int x1), some (.int x2), some (.int (l3 + (2 : Int32))), some (.long (t_X9_sumAt (x1 - (1 : Int32)) l3 a46)), none], [])) rfl) ?_
        refine go_step (fun _ => ev_forget (L' := [some (.ref 45), some (.int x1), some (.int x2), some (.int (l3 + (2 : Int32))), none, none]) (show xleP _ [some (.ref 45), some (.int x1), some (.int x2), some (.int (l3 + (2 : Int32))), some (.long (t_X9_sumAt (x1 - (1 : Int32)) l3 a46)), none] from ⟨rfl, ⟨rfl, ⟨rfl, ⟨rfl, trivial⟩⟩⟩⟩) rfl) ?_
        exact ih (l3 + (2 : Int32)) (t_X9_setSum x1 (l3 / (2 : Int32)) (t_X9_sumAt (x1 - (1 : Int32)) l3 a46) a46) H1 (xfr_t fr rfl fH1) eH1_46 _ h
      · have h := (if_neg b26).symm.trans h
        refine go_step (fun _ => ev_run 8 (F' := (38, [some (.ref 45), some (.int x1), some (.int x2), some (.int l3), some (.long (t_X9_sumAt (x1 - (1 : Int32)) l3 a46)), none], [.int (l3 + (1 : Int32)), .int (x1 - (1 : Int32)), .ref 45, .long (t_X9_sumAt (x1 - (1 : Int32)) l3 a46), .int (l3 / (2 : Int32)), .int x1, .ref 45])) rfl) ?_
        refine go_step (F1 := (41, [some (.ref 45), some (.int x1), some (.int x2), some (.int l3), some (.long (t_X9_sumAt (x1 - (1 : Int32)) l3 a46)), none], [.long (t_X9_sumAt (x1 - (1 : Int32)) (l3 + (1 : Int32)) a46), .long (t_X9_sumAt (x1 - (1 : Int32)) l3 a46), .int (l3 / (2 : Int32)), .int x1, .ref 45])) (M1 := (H, z)) (fun _ => ev_callV (x := (.invokevirtual 51, 3, 89, 8, 1156, .null)) (as := [.int (x1 - (1 : Int32)), .int (l3 + (1 : Int32))]) (rest := [.long (t_X9_sumAt (x1 - (1 : Int32)) l3 a46), .int (l3 / (2 : Int32)), .int x1, .ref 45]) rfl rfl ((fr 45 rfl).trans u_45) (C_X9_sumAt (S := S) (d := d + 2) (z := z) (x1 := (x1 - (1 : Int32))) (x2 := (l3 + (1 : Int32))) ((fr 45 rfl).trans u_45) e_46) rfl) ?_
        obtain ⟨y2, hy2, h⟩ := okb h
        refine go_step (F1 := (44, [some (.ref 45), some (.int x1), some (.int x2), some (.int l3), some (.long (t_X9_sumAt (x1 - (1 : Int32)) l3 a46)), none], [.long y2, .int (l3 / (2 : Int32)), .int x1, .ref 45])) (M1 := (H, z)) (fun _ => ev_call (x := (.invokestatic 63, 3, 28, 0, 1160, .null)) (as := [.long (t_X9_sumAt (x1 - (1 : Int32)) l3 a46), .long (t_X9_sumAt (x1 - (1 : Int32)) (l3 + (1 : Int32)) a46)]) (rest := [.int (l3 / (2 : Int32)), .int x1, .ref 45]) rfl rfl (C_X2_sumOfPair (S := S) (d := d) (z := z) (x0 := (t_X9_sumAt (x1 - (1 : Int32)) l3 a46)) (x2 := (t_X9_sumAt (x1 - (1 : Int32)) (l3 + (1 : Int32)) a46)) hy2) rfl) ?_
        refine go_step (fun _ => ev_run 1 (F' := (49, [some (.ref 45), some (.int x1), some (.int x2), some (.int l3), some (.long (t_X9_sumAt (x1 - (1 : Int32)) l3 a46)), none], [.long y2, .int (l3 / (2 : Int32)), .int x1, .ref 45])) rfl) ?_
        obtain ⟨H3, hCH3, eH3_46, fH3⟩ := C_X9_setSum (S := S) (d := d + 2) (z := z) (x1 := x1) (x2 := (l3 / (2 : Int32))) (x3 := y2) ((fr 45 rfl).trans u_45) e_46
        refine go_step (F1 := (52, [some (.ref 45), some (.int x1), some (.int x2), some (.int l3), some (.long (t_X9_sumAt (x1 - (1 : Int32)) l3 a46)), none], [])) (M1 := (H3, z)) (fun _ => ev_callV (x := (.invokevirtual 39, 3, 90, 8, 1148, .null)) (as := [.int x1, .int (l3 / (2 : Int32)), .long y2]) (rest := []) rfl rfl ((fr 45 rfl).trans u_45) hCH3 rfl) ?_
        refine go_step (fun _ => ev_run 2 (F' := (2, [some (.ref 45), some (.int x1), some (.int x2), some (.int (l3 + (2 : Int32))), some (.long (t_X9_sumAt (x1 - (1 : Int32)) l3 a46)), none], [])) rfl) ?_
        refine go_step (fun _ => ev_forget (L' := [some (.ref 45), some (.int x1), some (.int x2), some (.int (l3 + (2 : Int32))), none, none]) (show xleP _ [some (.ref 45), some (.int x1), some (.int x2), some (.int (l3 + (2 : Int32))), some (.long (t_X9_sumAt (x1 - (1 : Int32)) l3 a46)), none] from ⟨rfl, ⟨rfl, ⟨rfl, ⟨rfl, trivial⟩⟩⟩⟩) rfl) ?_
        exact ih (l3 + (2 : Int32)) (t_X9_setSum x1 (l3 / (2 : Int32)) y2 a46) H3 (xfr_t fr rfl fH3) eH3_46 _ h
theorem C_X9_growLevel {S : Nat × (Nat → Int32)} {d : Nat} {H : List xE} {z : Bool × Nat × Nat} {a46 : Nat → Int64} {c45_2 : Int32} {x1 : Int32} {x2 : Int32} (u_46 : H[46]? = some (.inl (1, 80, .inr (.inl a46)))) (u_45 : H[45]? = some (.inr (8, [.ref 46, .ref 47, .int c45_2]))) {x : Nat → Int64} (h : q_X9_growLevel x1 x2 a46 = some x) : ∃ H' : List xE, Cm S (d + 3) 88 [.ref 45, .int x1, .int x2] (H, z) (.inr none, (H', z)) ∧ H'[46]? = some (.inl (1, 80, .inr (.inl x))) ∧ xfr [46] H H' := by
  have G : Go S (d + 3) 88 (0, [some (.ref 45), some (.int x1), some (.int x2), none, none, none], []) (H, z) (fun _ _ => False) (fun r => ∃ H' : List xE, r = (.inr none, (H', z)) ∧ H'[46]? = some (.inl (1, 80, .inr (.inl x))) ∧ xfr [46] H H') := by
    unfold q_X9_growLevel at h
    refine go_step (fun _ => ev_run 2 (F' := (2, [some (.ref 45), some (.int x1), some (.int x2), some (.int (0 : Int32)), none, none], [])) rfl) ?_
    obtain ⟨y1, hy1, h⟩ := okb h
    obtain ⟨_, _, hr3, H2, rfl, rfl, eH2_46, fH2⟩ := go_nr (L_X9_growLevel_L2 (S := S) (d := d) (z := z) (x1 := x1) (x2 := x2) u_45 10000 (0 : Int32) a46 H xfr_refl u_46 _ hy1)
    refine go_step hr3 ?_
    cases h
    exact Or.inr ⟨_, ev_ret rfl rfl rfl rfl, H2, rfl, eH2_46, (xfr_t xfr_refl rfl fH2)⟩
  obtain ⟨_, hE, H', rfl, hrest⟩ := go_end G
  exact ⟨H', hE, hrest⟩
def q_X9_grow_L12 (x2 : Int32) (c1_1 : Int32) (a2 : Nat → Int32) : Nat → Int32 → (Nat → Int64) → Option (Int32 × (Nat → Int64))
  | 0, _, _ => none
  | n + 1, l3, a46 => (if x2 ≤ l3 then (some (l3, a46)) else ((q_X2_sumOf ((4 : Int32) * l3) (if (t_X5_size c1_1) < (((4 : Int32) * l3) + (4 : Int32)) then (t_X5_size c1_1) else (((4 : Int32) * l3) + (4 : Int32))) a2).bind (fun y1 => (q_X9_grow_L12 x2 c1_1 a2 n (l3 + (1 : Int32)) (t_X9_setSum (0 : Int32) l3 y1 a46)))))
def q_X9_grow_L65 : Nat → Int32 → (Nat → Int64) → Int32 → (Nat → Int32) → Option (Int32 × (Nat → Int64) × Int32 × (Nat → Int32))
  | 0, _, _, _, _ => none
  | n + 1, l3, a46, c45_2, a47 => (if (nI 5) ≤ l3 then (some (l3, a46, c45_2, a47)) else (if xin (l3 - (1 : Int32)) 5 = true then (if (a47 (l3 - (1 : Int32)).toNatClampNeg) ≤ (1 : Int32) then (some (l3, a46, c45_2, a47)) else (if xin (l3 - (1 : Int32)) 5 = true then ((q_X9_growLevel l3 (a47 (l3 - (1 : Int32)).toNatClampNeg) a46).bind (fun y1 => (if xin (l3 - (1 : Int32)) 5 = true then (if xin l3 5 = true then (q_X9_grow_L65 n (l3 + (1 : Int32)) y1 (l3 + (1 : Int32)) (upd a47 l3.toNatClampNeg (((a47 (l3 - (1 : Int32)).toNatClampNeg) + (1 : Int32)) / (2 : Int32)))) else none) else none))) else none)) else none))
def q_X9_grow (c1_1 : Int32) (a2 : Nat → Int32) (a46 : Nat → Int64) (a47 : Nat → Int32) : Option ((Nat → Int64) × Int32 × (Nat → Int32)) := ((q_X9_grow_L12 (if (16 : Int32) < (t_X9_leavesOf c1_1) then (16 : Int32) else (t_X9_leavesOf c1_1)) c1_1 a2 10000 (0 : Int32) a46).bind (fun y1 => ((q_X9_grow_L65 10000 (1 : Int32) y1.2 (1 : Int32) (upd a47 (0 : Int32).toNatClampNeg (if (16 : Int32) < (t_X9_leavesOf c1_1) then (16 : Int32) else (t_X9_leavesOf c1_1)))).bind (fun y6 => (some (y6.2.1, y6.2.2.1, y6.2.2.2))))))
theorem L_X9_grow_L12 {S : Nat × (Nat → Int32)} {d : Nat} {z : Bool × Nat × Nat} {c45_2 : Int32} {a47 : Nat → Int32} {x2 : Int32} {c1_1 : Int32} {a2 : Nat → Int32} {H0 : List xE} (u_1 : H0[1]? = some (.inr (4, [.ref 2, .int c1_1]))) (u_2 : H0[2]? = some (.inl (0, 64, .inl a2))) (u_45 : H0[45]? = some (.inr (8, [.ref 46, .ref 47, .int c45_2]))) (u_47 : H0[47]? = some (.inl (0, 5, .inl a47))) : ∀ (n : Nat) (l3 : Int32) (a46 : Nat → Int64) (H : List xE), xfr [46] H0 H → H[46]? = some (.inl (1, 80, .inr (.inl a46))) → ∀ x, q_X9_grow_L12 x2 c1_1 a2 n l3 a46 = some x → Go S (d + 4) 83 (12, [some (.ref 45), some (.ref 1), some (.int x2), some (.int l3), none], []) (H, z) (fun F' M' => ∃ H' : List xE, F' = (51, [some (.ref 45), none, some (.int x2), none, none], []) ∧ M' = (H', z) ∧ H'[46]? = some (.inl (1, 80, .inr (.inl x.2))) ∧ xfr [46] H0 H') (fun _ => False) := by
  intro n
  induction n with
  | zero =>
    intro l3 a46 H fr e_46 x h
    unfold q_X9_grow_L12 at h
    cases h
  | succ n ih =>
    intro l3 a46 H fr e_46 x h
    unfold q_X9_grow_L12 at h
    refine go_step (fun _ => ev_run 2 (F' := (14, [some (.ref 45), some (.ref 1), some (.int x2), some (.int l3), none], [.int x2, .int l3])) rfl) ?_
    refine go_icmp rfl (fun (b14 : x2 ≤ l3) => ?_) (fun (b14 : ¬ (x2 ≤ l3)) => ?_)
    · have h := (if_pos b14).symm.trans h
      refine go_step (fun _ => ev_forget (L' := [some (.ref 45), none, some (.int x2), none, none]) (show xleP _ [some (.ref 45), some (.ref 1), some (.int x2), some (.int l3), none] from ⟨rfl, ⟨rfl, trivial⟩⟩) rfl) ?_
      cases h
      exact Or.inl ⟨_, _, fun r hr => hr, H, rfl, rfl, e_46, fr⟩
    · have h := (if_neg b14).symm.trans h
      refine go_step (fun _ => ev_run 13 (F' := (33, [some (.ref 45), some (.ref 1), some (.int x2), some (.int l3), some (.int ((4 : Int32) * l3))], [.ref 1, .int (((4 : Int32) * l3) + (4 : Int32)), .int ((4 : Int32) * l3), .ref 1, .int l3, .int (0 : Int32), .ref 45])) rfl) ?_
      refine go_step (F1 := (36, [some (.ref 45), some (.ref 1), some (.int x2), some (.int l3), some (.int ((4 : Int32) * l3))], [.int (t_X5_size c1_1), .int (((4 : Int32) * l3) + (4 : Int32)), .int ((4 : Int32) * l3), .ref 1, .int l3, .int (0 : Int32), .ref 45])) (M1 := (H, z)) (fun _ => ev_callV (x := (.invokevirtual 17, 3, 53, 4, 1145, .null)) (as := []) (rest := [.int (((4 : Int32) * l3) + (4 : Int32)), .int ((4 : Int32) * l3), .ref 1, .int l3, .int (0 : Int32), .ref 45]) rfl rfl ((fr 1 rfl).trans u_1) (C_X5_size (S := S) (d := d + 3) (z := z) ((fr 1 rfl).trans u_1)) rfl) ?_
      refine go_step (fun _ => ev_run 1 (F' := (39, [some (.ref 45), some (.ref 1), some (.int x2), some (.int l3), some (.int ((4 : Int32) * l3))], [.int (if (t_X5_size c1_1) < (((4 : Int32) * l3) + (4 : Int32)) then (t_X5_size c1_1) else (((4 : Int32) * l3) + (4 : Int32))), .int ((4 : Int32) * l3), .ref 1, .int l3, .int (0 : Int32), .ref 45])) rfl) ?_
      obtain ⟨y1, hy1, h⟩ := okb h
      refine go_step (F1 := (42, [some (.ref 45), some (.ref 1), some (.int x2), some (.int l3), some (.int ((4 : Int32) * l3))], [.long y1, .int l3, .int (0 : Int32), .ref 45])) (M1 := (H, z)) (fun _ => ev_call (x := (.invokestatic 33, 3, 26, 0, 1147, .null)) (as := [.ref 1, .int ((4 : Int32) * l3), .int (if (t_X5_size c1_1) < (((4 : Int32) * l3) + (4 : Int32)) then (t_X5_size c1_1) else (((4 : Int32) * l3) + (4 : Int32)))]) (rest := [.int l3, .int (0 : Int32), .ref 45]) rfl rfl (C_X2_sumOf (S := S) (d := d + 1) (z := z) (x1 := ((4 : Int32) * l3)) (x2 := (if (t_X5_size c1_1) < (((4 : Int32) * l3) + (4 : Int32)) then (t_X5_size c1_1) else (((4 : Int32) * l3) + (4 : Int32)))) ((fr 2 rfl).trans u_2) ((fr 1 rfl).trans u_1) hy1) rfl) ?_
      obtain ⟨H2, hCH2, eH2_46, fH2⟩ := C_X9_setSum (S := S) (d := d + 3) (z := z) (x1 := (0 : Int32)) (x2 := l3) (x3 := y1) ((fr 45 rfl).trans u_45) e_46
      refine go_step (F1 := (45, [some (.ref 45), some (.ref 1), some (.int x2), some (.int l3), some (.int ((4 : Int32) * l3))], [])) (M1 := (H2, z)) (fun _ => ev_callV (x := (.invokevirtual 39, 3, 90, 8, 1148, .null)) (as := [.int (0 : Int32), .int l3, .long y1]) (rest := []) rfl rfl ((fr 45 rfl).trans u_45) hCH2 rfl) ?_
      refine go_step (fun _ => ev_run 2 (F' := (12, [some (.ref 45), some (.ref 1), some (.int x2), some (.int (l3 + (1 : Int32))), some (.int ((4 : Int32) * l3))], [])) rfl) ?_
      refine go_step (fun _ => ev_forget (L' := [some (.ref 45), some (.ref 1), some (.int x2), some (.int (l3 + (1 : Int32))), none]) (show xleP _ [some (.ref 45), some (.ref 1), some (.int x2), some (.int (l3 + (1 : Int32))), some (.int ((4 : Int32) * l3))] from ⟨rfl, ⟨rfl, ⟨rfl, ⟨rfl, trivial⟩⟩⟩⟩) rfl) ?_
      exact ih (l3 + (1 : Int32)) (t_X9_setSum (0 : Int32) l3 y1 a46) H2 (xfr_t fr rfl fH2) eH2_46 _ h
theorem L_X9_grow_L65 {S : Nat × (Nat → Int32)} {d : Nat} {z : Bool × Nat × Nat} {c1_1 : Int32} {a2 : Nat → Int32} {H0 : List xE} (u_1 : H0[1]? = some (.inr (4, [.ref 2, .int c1_1]))) (u_2 : H0[2]? = some (.inl (0, 64, .inl a2))) : ∀ (n : Nat) (l3 : Int32) (a46 : Nat → Int64) (c45_2 : Int32) (a47 : Nat → Int32) (H : List xE), xfr [46, 45, 47] H0 H → H[46]? = some (.inl (1, 80, .inr (.inl a46))) → H[45]? = some (.inr (8, [.ref 46, .ref 47, .int c45_2])) → H[47]? = some (.inl (0, 5, .inl a47)) → ∀ x, q_X9_grow_L65 n l3 a46 c45_2 a47 = some x → Go S (d + 4) 83 (65, [some (.ref 45), none, none, some (.int l3), none], []) (H, z) (fun F' M' => ∃ H' : List xE, F' = (130, [none, none, none, none, none], []) ∧ M' = (H', z) ∧ H'[46]? = some (.inl (1, 80, .inr (.inl x.2.1))) ∧ H'[45]? = some (.inr (8, [.ref 46, .ref 47, .int x.2.2.1])) ∧ H'[47]? = some (.inl (0, 5, .inl x.2.2.2)) ∧ xfr [46, 45, 47] H0 H') (fun _ => False) := by
  intro n
  induction n with
  | zero =>
    intro l3 a46 c45_2 a47 H fr e_46 e_45 e_47 x h
    unfold q_X9_grow_L65 at h
    cases h
  | succ n ih =>
    intro l3 a46 c45_2 a47 H fr e_46 e_45 e_47 x h
    unfold q_X9_grow_L65 at h
    refine go_step (fun _ => ev_run 2 (F' := (67, [some (.ref 45), none, none, some (.int l3), none], [.ref 45, .int l3])) rfl) ?_
    refine go_step (fun _ => ev_getf rfl e_45 rfl) ?_
    refine go_step (fun _ => ev_alen rfl e_47 rfl) ?_
    refine go_icmp rfl (fun (b71 : (nI 5) ≤ l3) => ?_) (fun (b71 : ¬ ((nI 5) ≤ l3)) => ?_)
    · have h := (if_pos b71).symm.trans h
      refine go_step (fun _ => ev_forget (L' := [none, none, none, none, none]) (show xleP _ [some (.ref 45), none, none, some (.int l3), none] from trivial) rfl) ?_
      cases h
      exact Or.inl ⟨_, _, fun r hr => hr, H, rfl, rfl, e_46, e_45, e_47, fr⟩
    · have h := (if_neg b71).symm.trans h
      refine go_step (fun _ => ev_run 1 (F' := (75, [some (.ref 45), none, none, some (.int l3), none], [.ref 45])) rfl) ?_
      refine go_step (fun _ => ev_getf rfl e_45 rfl) ?_
      refine go_step (fun _ => ev_run 3 (F' := (81, [some (.ref 45), none, none, some (.int l3), none], [.int (l3 - (1 : Int32)), .ref 47])) rfl) ?_
      obtain ⟨g81, h⟩ := okg h
      refine go_step (fun _ => ev_iald rfl e_47 g81) ?_
      refine go_step (fun _ => ev_run 1 (F' := (83, [some (.ref 45), none, none, some (.int l3), none], [.int (1 : Int32), .int (a47 (l3 - (1 : Int32)).toNatClampNeg)])) rfl) ?_
      refine go_icmp rfl (fun (b83 : (a47 (l3 - (1 : Int32)).toNatClampNeg) ≤ (1 : Int32)) => ?_) (fun (b83 : ¬ ((a47 (l3 - (1 : Int32)).toNatClampNeg) ≤ (1 : Int32))) => ?_)
      · have h := (if_pos b83).symm.trans h
        refine go_step (fun _ => ev_forget (L' := [none, none, none, none, none]) (show xleP _ [some (.ref 45), none, none, some (.int l3), none] from trivial) rfl) ?_
        cases h
        exact Or.inl ⟨_, _, fun r hr => hr, H, rfl, rfl, e_46, e_45, e_47, fr⟩
      · have h := (if_neg b83).symm.trans h
        refine go_step (fun _ => ev_run 3 (F' := (89, [some (.ref 45), none, none, some (.int l3), none], [.ref 45, .int l3, .ref 45])) rfl) ?_
        refine go_step (fun _ => ev_getf rfl e_45 rfl) ?_
        refine go_step (fun _ => ev_run 3 (F' := (95, [some (.ref 45), none, none, some (.int l3), none], [.int (l3 - (1 : Int32)), .ref 47, .int l3, .ref 45])) rfl) ?_
        obtain ⟨g95, h⟩ := okg h
        refine go_step (fun _ => ev_iald rfl e_47 g95) ?_
        obtain ⟨y1, hy1, h⟩ := okb h
        obtain ⟨H2, hCH2, eH2_46, fH2⟩ := C_X9_growLevel (S := S) (d := d) (z := z) (x1 := l3) (x2 := (a47 (l3 - (1 : Int32)).toNatClampNeg)) e_46 e_45 hy1
        refine go_step (F1 := (99, [some (.ref 45), none, none, some (.int l3), none], [])) (M1 := (H2, z)) (fun _ => ev_callV (x := (.invokevirtual 47, 3, 88, 8, 1152, .null)) (as := [.int l3, .int (a47 (l3 - (1 : Int32)).toNatClampNeg)]) (rest := []) rfl rfl e_45 hCH2 rfl) ?_
        refine go_step (fun _ => ev_run 1 (F' := (100, [some (.ref 45), none, none, some (.int l3), none], [.ref 45])) rfl) ?_
        refine go_step (fun _ => ev_getf rfl ((fH2 45 rfl).trans e_45) rfl) ?_
        refine go_step (fun _ => ev_run 2 (F' := (105, [some (.ref 45), none, none, some (.int l3), none], [.ref 45, .int l3, .ref 47])) rfl) ?_
        refine go_step (fun _ => ev_getf rfl ((fH2 45 rfl).trans e_45) rfl) ?_
        refine go_step (fun _ => ev_run 3 (F' := (111, [some (.ref 45), none, none, some (.int l3), none], [.int (l3 - (1 : Int32)), .ref 47, .int l3, .ref 47])) rfl) ?_
        obtain ⟨g111, h⟩ := okg h
        refine go_step (fun _ => ev_iald rfl ((fH2 47 rfl).trans e_47) g111) ?_
        refine go_step (fun _ => ev_run 3 (F' := (115, [some (.ref 45), none, none, some (.int l3), none], [.int (2 : Int32), .int ((a47 (l3 - (1 : Int32)).toNatClampNeg) + (1 : Int32)), .int l3, .ref 47])) rfl) ?_
        refine go_step (fun _ => ev_div rfl (by decide)) ?_
        obtain ⟨g116, h⟩ := okg h
        refine go_iast rfl ((fH2 47 rfl).trans e_47) g116 (fun H3 (eH3 : H3[47]? = some (.inl (0, 5, .inl (upd a47 l3.toNatClampNeg (((a47 (l3 - (1 : Int32)).toNatClampNeg) + (1 : Int32)) / (2 : Int32)))))) fH3 => ?_)
        refine go_step (fun _ => ev_run 4 (F' := (121, [some (.ref 45), none, none, some (.int l3), none], [.int (l3 + (1 : Int32)), .ref 45])) rfl) ?_
        refine go_putf rfl ((fH3 45 rfl).trans ((fH2 45 rfl).trans e_45)) rfl (fun H4 (eH4 : H4[45]? = some (.inr (8, [.ref 46, .ref 47, .int (l3 + (1 : Int32))]))) fH4 => ?_)
        refine go_step (fun _ => ev_run 2 (F' := (65, [some (.ref 45), none, none, some (.int (l3 + (1 : Int32))), none], [])) rfl) ?_
        exact ih (l3 + (1 : Int32)) y1 (l3 + (1 : Int32)) (upd a47 l3.toNatClampNeg (((a47 (l3 - (1 : Int32)).toNatClampNeg) + (1 : Int32)) / (2 : Int32))) H4 (xfr_t (xfr_t (xfr_t fr rfl fH2) rfl fH3) rfl fH4) ((fH4 46 rfl).trans ((fH3 46 rfl).trans eH2_46)) eH4 ((fH4 47 rfl).trans eH3) _ h
theorem C_X9_grow {S : Nat × (Nat → Int32)} {d : Nat} {H : List xE} {z : Bool × Nat × Nat} {c1_1 : Int32} {a2 : Nat → Int32} {a46 : Nat → Int64} {c45_2 : Int32} {a47 : Nat → Int32} (u_1 : H[1]? = some (.inr (4, [.ref 2, .int c1_1]))) (u_2 : H[2]? = some (.inl (0, 64, .inl a2))) (u_46 : H[46]? = some (.inl (1, 80, .inr (.inl a46)))) (u_45 : H[45]? = some (.inr (8, [.ref 46, .ref 47, .int c45_2]))) (u_47 : H[47]? = some (.inl (0, 5, .inl a47))) {x : ((Nat → Int64) × Int32 × (Nat → Int32))} (h : q_X9_grow c1_1 a2 a46 a47 = some x) : ∃ H' : List xE, Cm S (d + 4) 83 [.ref 45, .ref 1] (H, z) (.inr none, (H', z)) ∧ H'[46]? = some (.inl (1, 80, .inr (.inl x.1))) ∧ H'[45]? = some (.inr (8, [.ref 46, .ref 47, .int x.2.1])) ∧ H'[47]? = some (.inl (0, 5, .inl x.2.2)) ∧ xfr [46, 45, 47] H H' := by
  have G : Go S (d + 4) 83 (0, [some (.ref 45), some (.ref 1), none, none, none], []) (H, z) (fun _ _ => False) (fun r => ∃ H' : List xE, r = (.inr none, (H', z)) ∧ H'[46]? = some (.inl (1, 80, .inr (.inl x.1))) ∧ H'[45]? = some (.inr (8, [.ref 46, .ref 47, .int x.2.1])) ∧ H'[47]? = some (.inl (0, 5, .inl x.2.2)) ∧ xfr [46, 45, 47] H H') := by
    unfold q_X9_grow at h
    refine go_step (fun _ => ev_run 1 (F' := (1, [some (.ref 45), some (.ref 1), none, none, none], [.ref 1])) rfl) ?_
    refine go_step (F1 := (4, [some (.ref 45), some (.ref 1), none, none, none], [.int (t_X9_leavesOf c1_1)])) (M1 := (H, z)) (fun _ => ev_call (x := (.invokestatic 23, 3, 82, 8, 1142, .null)) (as := [.ref 1]) (rest := []) rfl rfl (C_X9_leavesOf (S := S) (d := d + 2) (z := z) u_1) rfl) ?_
    refine go_step (fun _ => ev_run 5 (F' := (12, [some (.ref 45), some (.ref 1), some (.int (if (16 : Int32) < (t_X9_leavesOf c1_1) then (16 : Int32) else (t_X9_leavesOf c1_1))), some (.int (0 : Int32)), none], [])) rfl) ?_
    obtain ⟨y1, hy1, h⟩ := okb h
    obtain ⟨_, _, hr3, H2, rfl, rfl, eH2_46, fH2⟩ := go_nr (L_X9_grow_L12 (S := S) (d := d) (z := z) (x2 := (if (16 : Int32) < (t_X9_leavesOf c1_1) then (16 : Int32) else (t_X9_leavesOf c1_1))) u_1 u_2 u_45 u_47 10000 (0 : Int32) a46 H xfr_refl u_46 _ hy1)
    refine go_step hr3 ?_
    refine go_step (fun _ => ev_run 1 (F' := (52, [some (.ref 45), none, some (.int (if (16 : Int32) < (t_X9_leavesOf c1_1) then (16 : Int32) else (t_X9_leavesOf c1_1))), none, none], [.ref 45])) rfl) ?_
    refine go_step (fun _ => ev_getf rfl ((fH2 45 rfl).trans u_45) rfl) ?_
    refine go_step (fun _ => ev_run 2 (F' := (57, [some (.ref 45), none, some (.int (if (16 : Int32) < (t_X9_leavesOf c1_1) then (16 : Int32) else (t_X9_leavesOf c1_1))), none, none], [.int (if (16 : Int32) < (t_X9_leavesOf c1_1) then (16 : Int32) else (t_X9_leavesOf c1_1)), .int (0 : Int32), .ref 47])) rfl) ?_
    refine go_iast rfl ((fH2 47 rfl).trans u_47) rfl (fun H4 (eH4 : H4[47]? = some (.inl (0, 5, .inl (upd a47 (0 : Int32).toNatClampNeg (if (16 : Int32) < (t_X9_leavesOf c1_1) then (16 : Int32) else (t_X9_leavesOf c1_1)))))) fH4 => ?_)
    refine go_step (fun _ => ev_run 2 (F' := (60, [some (.ref 45), none, some (.int (if (16 : Int32) < (t_X9_leavesOf c1_1) then (16 : Int32) else (t_X9_leavesOf c1_1))), none, none], [.int (1 : Int32), .ref 45])) rfl) ?_
    refine go_putf rfl ((fH4 45 rfl).trans ((fH2 45 rfl).trans u_45)) rfl (fun H5 (eH5 : H5[45]? = some (.inr (8, [.ref 46, .ref 47, .int (1 : Int32)]))) fH5 => ?_)
    refine go_step (fun _ => ev_run 2 (F' := (65, [some (.ref 45), none, some (.int (if (16 : Int32) < (t_X9_leavesOf c1_1) then (16 : Int32) else (t_X9_leavesOf c1_1))), some (.int (1 : Int32)), none], [])) rfl) ?_
    refine go_step (fun _ => ev_forget (L' := [some (.ref 45), none, none, some (.int (1 : Int32)), none]) (show xleP _ [some (.ref 45), none, some (.int (if (16 : Int32) < (t_X9_leavesOf c1_1) then (16 : Int32) else (t_X9_leavesOf c1_1))), some (.int (1 : Int32)), none] from ⟨rfl, ⟨rfl, trivial⟩⟩) rfl) ?_
    obtain ⟨y6, hy6, h⟩ := okb h
    obtain ⟨_, _, hr8, H7, rfl, rfl, eH7_46, eH7_45, eH7_47, fH7⟩ := go_nr (L_X9_grow_L65 (S := S) (d := d) (z := z) ((fH5 1 rfl).trans ((fH4 1 rfl).trans ((fH2 1 rfl).trans u_1))) ((fH5 2 rfl).trans ((fH4 2 rfl).trans ((fH2 2 rfl).trans u_2))) 10000 (1 : Int32) y1.2 (1 : Int32) (upd a47 (0 : Int32).toNatClampNeg (if (16 : Int32) < (t_X9_leavesOf c1_1) then (16 : Int32) else (t_X9_leavesOf c1_1))) H5 xfr_refl ((fH5 46 rfl).trans ((fH4 46 rfl).trans eH2_46)) eH5 ((fH5 47 rfl).trans eH4) _ hy6)
    refine go_step hr8 ?_
    cases h
    exact Or.inr ⟨_, ev_ret rfl rfl rfl rfl, H7, rfl, eH7_46, eH7_45, eH7_47, (xfr_t (xfr_t (xfr_t (xfr_t xfr_refl rfl fH2) rfl fH4) rfl fH5) rfl fH7)⟩
  obtain ⟨_, hE, H', rfl, hrest⟩ := go_end G
  exact ⟨H', hE, hrest⟩
def t_X9_steps (c45_2 : Int32) : Int32 := (c45_2 - (1 : Int32))
theorem C_X9_steps {S : Nat × (Nat → Int32)} {d : Nat} {H : List xE} {z : Bool × Nat × Nat} {c45_2 : Int32} (u_45 : H[45]? = some (.inr (8, [.ref 46, .ref 47, .int c45_2]))) : Cm S d 84 [.ref 45] (H, z) (.inr (some (.int (t_X9_steps c45_2))), (H, z)) := by
  have G : ∀ x, t_X9_steps c45_2 = x → Go S d 84 (0, [some (.ref 45)], []) (H, z) (fun _ _ => False) (fun r => r = (.inr (some (.int x)), (H, z))) := by
    intro x h
    unfold t_X9_steps at h
    refine go_step (fun _ => ev_run 1 (F' := (1, [some (.ref 45)], [.ref 45])) rfl) ?_
    refine go_step (fun _ => ev_getf rfl u_45 rfl) ?_
    refine go_step (fun _ => ev_run 2 (F' := (6, [some (.ref 45)], [.int (c45_2 - (1 : Int32))])) rfl) ?_
    cases h
    exact Or.inr ⟨_, ev_ret rfl rfl rfl rfl, rfl⟩
  obtain ⟨_, hE, rfl⟩ := go_end (G _ rfl)
  exact hE
def t_X9_topSum (c45_2 : Int32) (a46 : Nat → Int64) : Int64 := (t_X9_sumAt (c45_2 - (1 : Int32)) (0 : Int32) a46)
theorem C_X9_topSum {S : Nat × (Nat → Int32)} {d : Nat} {H : List xE} {z : Bool × Nat × Nat} {c45_2 : Int32} {a46 : Nat → Int64} (u_45 : H[45]? = some (.inr (8, [.ref 46, .ref 47, .int c45_2]))) (u_46 : H[46]? = some (.inl (1, 80, .inr (.inl a46)))) : Cm S (d + 1) 85 [.ref 45] (H, z) (.inr (some (.long (t_X9_topSum c45_2 a46))), (H, z)) := by
  have G : ∀ x, t_X9_topSum c45_2 a46 = x → Go S (d + 1) 85 (0, [some (.ref 45)], []) (H, z) (fun _ _ => False) (fun r => r = (.inr (some (.long x)), (H, z))) := by
    intro x h
    unfold t_X9_topSum at h
    refine go_step (fun _ => ev_run 2 (F' := (2, [some (.ref 45)], [.ref 45, .ref 45])) rfl) ?_
    refine go_step (fun _ => ev_getf rfl u_45 rfl) ?_
    refine go_step (fun _ => ev_run 3 (F' := (8, [some (.ref 45)], [.int (0 : Int32), .int (c45_2 - (1 : Int32)), .ref 45])) rfl) ?_
    refine go_step (F1 := (11, [some (.ref 45)], [.long (t_X9_sumAt (c45_2 - (1 : Int32)) (0 : Int32) a46)])) (M1 := (H, z)) (fun _ => ev_callV (x := (.invokevirtual 51, 3, 89, 8, 1156, .null)) (as := [.int (c45_2 - (1 : Int32)), .int (0 : Int32)]) (rest := []) rfl rfl u_45 (C_X9_sumAt (S := S) (d := d) (z := z) (x1 := (c45_2 - (1 : Int32))) (x2 := (0 : Int32)) u_45 u_46) rfl) ?_
    cases h
    exact Or.inr ⟨_, ev_ret rfl rfl rfl rfl, rfl⟩
  obtain ⟨_, hE, rfl⟩ := go_end (G _ rfl)
  exact hE
def t_X9_sumBeside (x1 : Int32) (x2 : Int32) (a47 : Nat → Int32) (a46 : Nat → Int64) : Int64 := (if x2 < (0 : Int32) then (-1 : Int64) else (if (nI 5) ≤ x2 then (-1 : Int64) else (if (a47 x2.toNatClampNeg) ≤ ((x1 >>> (x2 &&& (31 : Int32))) ^^^ (1 : Int32)) then (-1 : Int64) else (t_X9_sumAt x2 ((x1 >>> (x2 &&& (31 : Int32))) ^^^ (1 : Int32)) a46))))
theorem C_X9_sumBeside {S : Nat × (Nat → Int32)} {d : Nat} {H : List xE} {z : Bool × Nat × Nat} {c45_2 : Int32} {a47 : Nat → Int32} {a46 : Nat → Int64} {x1 : Int32} {x2 : Int32} (u_45 : H[45]? = some (.inr (8, [.ref 46, .ref 47, .int c45_2]))) (u_47 : H[47]? = some (.inl (0, 5, .inl a47))) (u_46 : H[46]? = some (.inl (1, 80, .inr (.inl a46)))) : Cm S (d + 1) 86 [.ref 45, .int x1, .int x2] (H, z) (.inr (some (.long (t_X9_sumBeside x1 x2 a47 a46))), (H, z)) := by
  have G : ∀ x, t_X9_sumBeside x1 x2 a47 a46 = x → Go S (d + 1) 86 (0, [some (.ref 45), some (.int x1), some (.int x2), none], []) (H, z) (fun _ _ => False) (fun r => r = (.inr (some (.long x)), (H, z))) := by
    intro x h
    unfold t_X9_sumBeside at h
    refine go_step (fun _ => ev_run 7 (F' := (7, [some (.ref 45), some (.int x1), some (.int x2), some (.int ((x1 >>> (x2 &&& (31 : Int32))) ^^^ (1 : Int32)))], [.int x2])) rfl) ?_
    refine go_if rfl (fun (b7 : x2 < (0 : Int32)) => ?_) (fun (b7 : ¬ (x2 < (0 : Int32))) => ?_)
    · have h := (if_pos b7).symm.trans h
      refine go_step (fun _ => ev_run 1 (F' := (41, [some (.ref 45), some (.int x1), some (.int x2), some (.int ((x1 >>> (x2 &&& (31 : Int32))) ^^^ (1 : Int32)))], [.long (-1 : Int64)])) rfl) ?_
      cases h
      exact Or.inr ⟨_, ev_ret rfl rfl rfl rfl, rfl⟩
    · have h := (if_neg b7).symm.trans h
      refine go_step (fun _ => ev_run 2 (F' := (12, [some (.ref 45), some (.int x1), some (.int x2), some (.int ((x1 >>> (x2 &&& (31 : Int32))) ^^^ (1 : Int32)))], [.ref 45, .int x2])) rfl) ?_
      refine go_step (fun _ => ev_getf rfl u_45 rfl) ?_
      refine go_step (fun _ => ev_alen rfl u_47 rfl) ?_
      refine go_icmp rfl (fun (b16 : (nI 5) ≤ x2) => ?_) (fun (b16 : ¬ ((nI 5) ≤ x2)) => ?_)
      · have h := (if_pos b16).symm.trans h
        refine go_step (fun _ => ev_run 1 (F' := (41, [some (.ref 45), some (.int x1), some (.int x2), some (.int ((x1 >>> (x2 &&& (31 : Int32))) ^^^ (1 : Int32)))], [.long (-1 : Int64)])) rfl) ?_
        cases h
        exact Or.inr ⟨_, ev_ret rfl rfl rfl rfl, rfl⟩
      · have h := (if_neg b16).symm.trans h
        refine go_step (fun _ => ev_run 2 (F' := (21, [some (.ref 45), some (.int x1), some (.int x2), some (.int ((x1 >>> (x2 &&& (31 : Int32))) ^^^ (1 : Int32)))], [.ref 45, .int ((x1 >>> (x2 &&& (31 : Int32))) ^^^ (1 : Int32))])) rfl) ?_
        refine go_step (fun _ => ev_getf rfl u_45 rfl) ?_
        refine go_step (fun _ => ev_run 1 (F' := (25, [some (.ref 45), some (.int x1), some (.int x2), some (.int ((x1 >>> (x2 &&& (31 : Int32))) ^^^ (1 : Int32)))], [.int x2, .ref 47, .int ((x1 >>> (x2 &&& (31 : Int32))) ^^^ (1 : Int32))])) rfl) ?_
        refine go_step (fun _ => ev_iald rfl u_47 (xin_of (by decide) b7 b16)) ?_
        refine go_step (F1 := (41, [none, none, none, none], [.long (if (a47 x2.toNatClampNeg) ≤ ((x1 >>> (x2 &&& (31 : Int32))) ^^^ (1 : Int32)) then (-1 : Int64) else (t_X9_sumAt x2 ((x1 >>> (x2 &&& (31 : Int32))) ^^^ (1 : Int32)) a46))])) (M1 := (H, z)) (fun r K => ?_) ?_
        · skip
          refine ev_icmp rfl (fun (b26 : (a47 x2.toNatClampNeg) ≤ ((x1 >>> (x2 &&& (31 : Int32))) ^^^ (1 : Int32))) => ?_) (fun (b26 : ¬ ((a47 x2.toNatClampNeg) ≤ ((x1 >>> (x2 &&& (31 : Int32))) ^^^ (1 : Int32)))) => ?_)
          · skip
            refine ev_run 1 (F' := (41, [some (.ref 45), some (.int x1), some (.int x2), some (.int ((x1 >>> (x2 &&& (31 : Int32))) ^^^ (1 : Int32)))], [.long (-1 : Int64)])) rfl ?_
            refine ev_forget (L' := [none, none, none, none]) (show xleP _ [some (.ref 45), some (.int x1), some (.int x2), some (.int ((x1 >>> (x2 &&& (31 : Int32))) ^^^ (1 : Int32)))] from trivial) rfl ?_
            exact ev_cast (show ((41, [none, none, none, none], [.long (-1 : Int64)]) : xF) = (41, [none, none, none, none], [.long (if (a47 x2.toNatClampNeg) ≤ ((x1 >>> (x2 &&& (31 : Int32))) ^^^ (1 : Int32)) then (-1 : Int64) else (t_X9_sumAt x2 ((x1 >>> (x2 &&& (31 : Int32))) ^^^ (1 : Int32)) a46))]) by first | (simp only [if_pos b26]; done) | rfl) rfl K
          · skip
            refine ev_run 3 (F' := (32, [some (.ref 45), some (.int x1), some (.int x2), some (.int ((x1 >>> (x2 &&& (31 : Int32))) ^^^ (1 : Int32)))], [.int ((x1 >>> (x2 &&& (31 : Int32))) ^^^ (1 : Int32)), .int x2, .ref 45])) rfl ?_
            refine ev_callV (x := (.invokevirtual 51, 3, 89, 8, 1156, .null)) (as := [.int x2, .int ((x1 >>> (x2 &&& (31 : Int32))) ^^^ (1 : Int32))]) (rest := []) rfl rfl u_45 (C_X9_sumAt (S := S) (d := d) (z := z) (x1 := x2) (x2 := ((x1 >>> (x2 &&& (31 : Int32))) ^^^ (1 : Int32))) u_45 u_46) rfl ?_
            refine ev_run 1 (F' := (41, [some (.ref 45), some (.int x1), some (.int x2), some (.int ((x1 >>> (x2 &&& (31 : Int32))) ^^^ (1 : Int32)))], [.long (t_X9_sumAt x2 ((x1 >>> (x2 &&& (31 : Int32))) ^^^ (1 : Int32)) a46)])) rfl ?_
            refine ev_forget (L' := [none, none, none, none]) (show xleP _ [some (.ref 45), some (.int x1), some (.int x2), some (.int ((x1 >>> (x2 &&& (31 : Int32))) ^^^ (1 : Int32)))] from trivial) rfl ?_
            exact ev_cast (show ((41, [none, none, none, none], [.long (t_X9_sumAt x2 ((x1 >>> (x2 &&& (31 : Int32))) ^^^ (1 : Int32)) a46)]) : xF) = (41, [none, none, none, none], [.long (if (a47 x2.toNatClampNeg) ≤ ((x1 >>> (x2 &&& (31 : Int32))) ^^^ (1 : Int32)) then (-1 : Int64) else (t_X9_sumAt x2 ((x1 >>> (x2 &&& (31 : Int32))) ^^^ (1 : Int32)) a46))]) by first | (simp only [if_neg b26]; done) | rfl) rfl K
        cases h
        exact Or.inr ⟨_, ev_ret rfl rfl rfl rfl, rfl⟩
  obtain ⟨_, hE, rfl⟩ := go_end (G _ rfl)
  exact hE
def q_X9_topSumWith_L6 (x1 : Int32) (c45_2 : Int32) (a47 : Nat → Int32) (a46 : Nat → Int64) : Nat → Int64 → Int32 → Option (Int64 × Int32)
  | 0, _, _ => none
  | n + 1, l4, l6 => (if (t_X9_steps c45_2) ≤ l6 then (some (l4, l6)) else (if (lg_cmp (t_X9_sumBeside x1 l6 a47 a46) (0 : Int64)) < (0 : Int32) then (q_X9_topSumWith_L6 x1 c45_2 a47 a46 n l4 (l6 + (1 : Int32))) else (if ¬ ((x1 >>> (l6 &&& (31 : Int32))) &&& (1 : Int32)) = (0 : Int32) then ((q_X2_sumOfPair (t_X9_sumBeside x1 l6 a47 a46) l4).bind (fun y1 => (q_X9_topSumWith_L6 x1 c45_2 a47 a46 n y1 (l6 + (1 : Int32))))) else ((q_X2_sumOfPair l4 (t_X9_sumBeside x1 l6 a47 a46)).bind (fun y2 => (q_X9_topSumWith_L6 x1 c45_2 a47 a46 n y2 (l6 + (1 : Int32))))))))
def q_X9_topSumWith (x1 : Int32) (x2 : Int64) (c45_2 : Int32) (a47 : Nat → Int32) (a46 : Nat → Int64) : Option Int64 := ((q_X9_topSumWith_L6 x1 c45_2 a47 a46 10000 x2 (0 : Int32)).bind (fun y1 => (some y1.1)))
theorem L_X9_topSumWith_L6 {S : Nat × (Nat → Int32)} {d : Nat} {z : Bool × Nat × Nat} {x1 : Int32} {c45_2 : Int32} {a47 : Nat → Int32} {a46 : Nat → Int64} {H : List xE} (u_45 : H[45]? = some (.inr (8, [.ref 46, .ref 47, .int c45_2]))) (u_47 : H[47]? = some (.inl (0, 5, .inl a47))) (u_46 : H[46]? = some (.inl (1, 80, .inr (.inl a46)))) : ∀ (n : Nat) (l4 : Int64) (l6 : Int32) x, q_X9_topSumWith_L6 x1 c45_2 a47 a46 n l4 l6 = some x → Go S (d + 3) 87 (6, [some (.ref 45), some (.int x1), none, none, some (.long l4), none, some (.int l6), none, none], []) (H, z) (fun F' M' =>  F' = (65, [none, none, none, none, some (.long x.1), none, none, none, none], []) ∧ M' = (H, z)) (fun _ => False) := by
  intro n
  induction n with
  | zero =>
    intro l4 l6 x h
    unfold q_X9_topSumWith_L6 at h
    cases h
  | succ n ih =>
    intro l4 l6 x h
    unfold q_X9_topSumWith_L6 at h
    refine go_step (fun _ => ev_run 2 (F' := (9, [some (.ref 45), some (.int x1), none, none, some (.long l4), none, some (.int l6), none, none], [.ref 45, .int l6])) rfl) ?_
    refine go_step (F1 := (12, [some (.ref 45), some (.int x1), none, none, some (.long l4), none, some (.int l6), none, none], [.int (t_X9_steps c45_2), .int l6])) (M1 := (H, z)) (fun _ => ev_callV (x := (.invokevirtual 57, 3, 84, 8, 1189, .null)) (as := []) (rest := [.int l6]) rfl rfl u_45 (C_X9_steps (S := S) (d := d + 2) (z := z) u_45) rfl) ?_
    refine go_icmp rfl (fun (b12 : (t_X9_steps c45_2) ≤ l6) => ?_) (fun (b12 : ¬ ((t_X9_steps c45_2) ≤ l6)) => ?_)
    · have h := (if_pos b12).symm.trans h
      refine go_step (fun _ => ev_forget (L' := [none, none, none, none, some (.long l4), none, none, none, none]) (show xleP _ [some (.ref 45), some (.int x1), none, none, some (.long l4), none, some (.int l6), none, none] from ⟨rfl, trivial⟩) rfl) ?_
      cases h
      exact Or.inl ⟨_, _, fun r hr => hr, rfl, rfl⟩
    · have h := (if_neg b12).symm.trans h
      refine go_step (fun _ => ev_run 3 (F' := (19, [some (.ref 45), some (.int x1), none, none, some (.long l4), none, some (.int l6), none, none], [.int l6, .int x1, .ref 45])) rfl) ?_
      refine go_step (F1 := (22, [some (.ref 45), some (.int x1), none, none, some (.long l4), none, some (.int l6), none, none], [.long (t_X9_sumBeside x1 l6 a47 a46)])) (M1 := (H, z)) (fun _ => ev_callV (x := (.invokevirtual 60, 3, 86, 8, 1193, .null)) (as := [.int x1, .int l6]) (rest := []) rfl rfl u_45 (C_X9_sumBeside (S := S) (d := d + 1) (z := z) (x1 := x1) (x2 := l6) u_45 u_47 u_46) rfl) ?_
      refine go_step (fun _ => ev_run 4 (F' := (28, [some (.ref 45), some (.int x1), none, none, some (.long l4), none, some (.int l6), some (.long (t_X9_sumBeside x1 l6 a47 a46)), none], [.int (lg_cmp (t_X9_sumBeside x1 l6 a47 a46) (0 : Int64))])) rfl) ?_
      refine go_if rfl (fun (b28 : (lg_cmp (t_X9_sumBeside x1 l6 a47 a46) (0 : Int64)) < (0 : Int32)) => ?_) (fun (b28 : ¬ ((lg_cmp (t_X9_sumBeside x1 l6 a47 a46) (0 : Int64)) < (0 : Int32))) => ?_)
      · have h := (if_pos b28).symm.trans h
        refine go_step (fun _ => ev_run 2 (F' := (6, [some (.ref 45), some (.int x1), none, none, some (.long l4), none, some (.int (l6 + (1 : Int32))), some (.long (t_X9_sumBeside x1 l6 a47 a46)), none], [])) rfl) ?_
        refine go_step (fun _ => ev_forget (L' := [some (.ref 45), some (.int x1), none, none, some (.long l4), none, some (.int (l6 + (1 : Int32))), none, none]) (show xleP _ [some (.ref 45), some (.int x1), none, none, some (.long l4), none, some (.int (l6 + (1 : Int32))), some (.long (t_X9_sumBeside x1 l6 a47 a46)), none] from ⟨rfl, ⟨rfl, ⟨rfl, ⟨rfl, trivial⟩⟩⟩⟩) rfl) ?_
        exact ih l4 (l6 + (1 : Int32)) _ h
      · have h := (if_neg b28).symm.trans h
        refine go_step (fun _ => ev_run 5 (F' := (37, [some (.ref 45), some (.int x1), none, none, some (.long l4), none, some (.int l6), some (.long (t_X9_sumBeside x1 l6 a47 a46)), none], [.int ((x1 >>> (l6 &&& (31 : Int32))) &&& (1 : Int32))])) rfl) ?_
        refine go_if rfl (fun (b37 : ¬ ((x1 >>> (l6 &&& (31 : Int32))) &&& (1 : Int32)) = (0 : Int32)) => ?_) (fun (b37 : ¬ (¬ ((x1 >>> (l6 &&& (31 : Int32))) &&& (1 : Int32)) = (0 : Int32))) => ?_)
        · have h := (if_pos b37).symm.trans h
          refine go_step (fun _ => ev_run 2 (F' := (54, [some (.ref 45), some (.int x1), none, none, some (.long l4), none, some (.int l6), some (.long (t_X9_sumBeside x1 l6 a47 a46)), none], [.long l4, .long (t_X9_sumBeside x1 l6 a47 a46)])) rfl) ?_
          obtain ⟨y1, hy1, h⟩ := okb h
          refine go_step (F1 := (57, [some (.ref 45), some (.int x1), none, none, some (.long l4), none, some (.int l6), some (.long (t_X9_sumBeside x1 l6 a47 a46)), none], [.long y1])) (M1 := (H, z)) (fun _ => ev_call (x := (.invokestatic 63, 3, 28, 0, 1160, .null)) (as := [.long (t_X9_sumBeside x1 l6 a47 a46), .long l4]) (rest := []) rfl rfl (C_X2_sumOfPair (S := S) (d := d) (z := z) (x0 := (t_X9_sumBeside x1 l6 a47 a46)) (x2 := l4) hy1) rfl) ?_
          refine go_step (fun _ => ev_run 3 (F' := (6, [some (.ref 45), some (.int x1), none, none, some (.long y1), none, some (.int (l6 + (1 : Int32))), some (.long (t_X9_sumBeside x1 l6 a47 a46)), none], [])) rfl) ?_
          refine go_step (fun _ => ev_forget (L' := [some (.ref 45), some (.int x1), none, none, some (.long y1), none, some (.int (l6 + (1 : Int32))), none, none]) (show xleP _ [some (.ref 45), some (.int x1), none, none, some (.long y1), none, some (.int (l6 + (1 : Int32))), some (.long (t_X9_sumBeside x1 l6 a47 a46)), none] from ⟨rfl, ⟨rfl, ⟨rfl, ⟨rfl, trivial⟩⟩⟩⟩) rfl) ?_
          exact ih y1 (l6 + (1 : Int32)) _ h
        · have h := (if_neg b37).symm.trans h
          refine go_step (fun _ => ev_run 2 (F' := (44, [some (.ref 45), some (.int x1), none, none, some (.long l4), none, some (.int l6), some (.long (t_X9_sumBeside x1 l6 a47 a46)), none], [.long (t_X9_sumBeside x1 l6 a47 a46), .long l4])) rfl) ?_
          obtain ⟨y2, hy2, h⟩ := okb h
          refine go_step (F1 := (47, [some (.ref 45), some (.int x1), none, none, some (.long l4), none, some (.int l6), some (.long (t_X9_sumBeside x1 l6 a47 a46)), none], [.long y2])) (M1 := (H, z)) (fun _ => ev_call (x := (.invokestatic 63, 3, 28, 0, 1160, .null)) (as := [.long l4, .long (t_X9_sumBeside x1 l6 a47 a46)]) (rest := []) rfl rfl (C_X2_sumOfPair (S := S) (d := d) (z := z) (x0 := l4) (x2 := (t_X9_sumBeside x1 l6 a47 a46)) hy2) rfl) ?_
          refine go_step (fun _ => ev_run 4 (F' := (6, [some (.ref 45), some (.int x1), none, none, some (.long y2), none, some (.int (l6 + (1 : Int32))), some (.long (t_X9_sumBeside x1 l6 a47 a46)), none], [])) rfl) ?_
          refine go_step (fun _ => ev_forget (L' := [some (.ref 45), some (.int x1), none, none, some (.long y2), none, some (.int (l6 + (1 : Int32))), none, none]) (show xleP _ [some (.ref 45), some (.int x1), none, none, some (.long y2), none, some (.int (l6 + (1 : Int32))), some (.long (t_X9_sumBeside x1 l6 a47 a46)), none] from ⟨rfl, ⟨rfl, ⟨rfl, ⟨rfl, trivial⟩⟩⟩⟩) rfl) ?_
          exact ih y2 (l6 + (1 : Int32)) _ h
theorem C_X9_topSumWith {S : Nat × (Nat → Int32)} {d : Nat} {H : List xE} {z : Bool × Nat × Nat} {c45_2 : Int32} {a47 : Nat → Int32} {a46 : Nat → Int64} {x1 : Int32} {x2 : Int64} (u_45 : H[45]? = some (.inr (8, [.ref 46, .ref 47, .int c45_2]))) (u_47 : H[47]? = some (.inl (0, 5, .inl a47))) (u_46 : H[46]? = some (.inl (1, 80, .inr (.inl a46)))) {x : Int64} (h : q_X9_topSumWith x1 x2 c45_2 a47 a46 = some x) : Cm S (d + 3) 87 [.ref 45, .int x1, .long x2] (H, z) (.inr (some (.long x)), (H, z)) := by
  have G : Go S (d + 3) 87 (0, [some (.ref 45), some (.int x1), some (.long x2), none, none, none, none, none, none], []) (H, z) (fun _ _ => False) (fun r => r = (.inr (some (.long x)), (H, z))) := by
    unfold q_X9_topSumWith at h
    refine go_step (fun _ => ev_run 4 (F' := (6, [some (.ref 45), some (.int x1), some (.long x2), none, some (.long x2), none, some (.int (0 : Int32)), none, none], [])) rfl) ?_
    refine go_step (fun _ => ev_forget (L' := [some (.ref 45), some (.int x1), none, none, some (.long x2), none, some (.int (0 : Int32)), none, none]) (show xleP _ [some (.ref 45), some (.int x1), some (.long x2), none, some (.long x2), none, some (.int (0 : Int32)), none, none] from ⟨rfl, ⟨rfl, ⟨rfl, ⟨rfl, trivial⟩⟩⟩⟩) rfl) ?_
    obtain ⟨y1, hy1, h⟩ := okb h
    obtain ⟨_, _, hr2, rfl, rfl⟩ := go_nr (L_X9_topSumWith_L6 (S := S) (d := d) (z := z) (x1 := x1) u_45 u_47 u_46 10000 x2 (0 : Int32) _ hy1)
    refine go_step hr2 ?_
    refine go_step (fun _ => ev_run 1 (F' := (67, [none, none, none, none, some (.long y1.1), none, none, none, none], [.long y1.1])) rfl) ?_
    cases h
    exact Or.inr ⟨_, ev_ret rfl rfl rfl rfl, rfl⟩
  obtain ⟨_, hE, rfl⟩ := go_end G
  exact hE

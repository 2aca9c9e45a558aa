/-! Functions of the methods, and that the small machine does what they say: written by a program (wip/whole/dec). -/
def t_X1_fits (x0 : Int32) (x1 : Int32) : Int32 := (if (32 : Int32) ≤ x1 then (1 : Int32) else (if ¬ (xus x0 x1) = (0 : Int32) then (0 : Int32) else (1 : Int32)))
theorem C_X1_fits {S : Nat × (Nat → Int32)} {d : Nat} {H : List xE} {z : Bool × Nat × Nat} {x0 : Int32} {x1 : Int32} : Cm S d 11 [.int x0, .int x1] (H, z) (.inr (some (.int (t_X1_fits x0 x1))), (H, z)) := by
  have G : ∀ x, t_X1_fits x0 x1 = x → Go S d 11 (0, [some (.int x0), some (.int x1)], []) (H, z) (fun _ _ => False) (fun r => r = (.inr (some (.int x)), (H, z))) := by
    intro x h
    unfold t_X1_fits at h
    refine go_step (fun _ => ev_run 2 (F' := (3, [some (.int x0), some (.int x1)], [.int (32 : Int32), .int x1])) rfl) ?_
    refine go_icmp rfl (fun (b3 : (32 : Int32) ≤ x1) => ?_) (fun (b3 : ¬ ((32 : Int32) ≤ x1)) => ?_)
    · have h := (if_pos b3).symm.trans h
      refine go_step (fun _ => ev_run 2 (F' := (17, [some (.int x0), some (.int x1)], [.int (1 : Int32)])) rfl) ?_
      cases h
      exact Or.inr ⟨_, ev_ret rfl rfl rfl rfl, rfl⟩
    · have h := (if_neg b3).symm.trans h
      refine go_step (fun _ => ev_run 3 (F' := (9, [some (.int x0), some (.int x1)], [.int (xus x0 x1)])) rfl) ?_
      refine go_if rfl (fun (b9 : ¬ (xus x0 x1) = (0 : Int32)) => ?_) (fun (b9 : ¬ (¬ (xus x0 x1) = (0 : Int32))) => ?_)
      · have h := (if_pos b9).symm.trans h
        refine go_step (fun _ => ev_run 1 (F' := (17, [some (.int x0), some (.int x1)], [.int (0 : Int32)])) rfl) ?_
        cases h
        exact Or.inr ⟨_, ev_ret rfl rfl rfl rfl, rfl⟩
      · have h := (if_neg b9).symm.trans h
        refine go_step (fun _ => ev_run 2 (F' := (17, [some (.int x0), some (.int x1)], [.int (1 : Int32)])) rfl) ?_
        cases h
        exact Or.inr ⟨_, ev_ret rfl rfl rfl rfl, rfl⟩
  obtain ⟨_, hE, rfl⟩ := go_end (G _ rfl)
  exact hE
theorem b_X1_fits (x0 : Int32) (x1 : Int32) : t_X1_fits x0 x1 = 0 ∨ t_X1_fits x0 x1 = 1 := by
  unfold t_X1_fits
  (repeat' split) <;> first | exact Or.inl rfl | exact Or.inr rfl | skip
def t_X1_tell (x1 : Int32) (x2 : Int32) (x3 : Int32) (x4 : Int32) (x5 : Int32) : (Int32 × Int32 × Int32 × Int32 × Int32 × Int32) := (if (x5 &&& (1 : Int32)) = (0 : Int32) then (if (x5 &&& (2 : Int32)) = (0 : Int32) then (x1, x2, x3, x4, (0 : Int32), (0 : Int32)) else (x1, x2, x3, x4, (0 : Int32), (1 : Int32))) else (if (x5 &&& (2 : Int32)) = (0 : Int32) then (x1, x2, x3, x4, (1 : Int32), (0 : Int32)) else (x1, x2, x3, x4, (1 : Int32), (1 : Int32))))
theorem C_X1_tell {S : Nat × (Nat → Int32)} {d : Nat} {H : List xE} {z : Bool × Nat × Nat} {h0 : Nat} {ch0_0 : Int32} {ch0_1 : Int32} {ch0_2 : Int32} {ch0_3 : Int32} {ch0_4 : Int32} {ch0_5 : Int32} {x1 : Int32} {x2 : Int32} {x3 : Int32} {x4 : Int32} {x5 : Int32} (u_h0 : H[h0]? = some (.inr (1, [.int ch0_0, .int ch0_1, .int ch0_2, .int ch0_3, .int ch0_4, .int ch0_5]))) : ∃ H' : List xE, Cm S d 12 [.ref h0, .int x1, .int x2, .int x3, .int x4, .int x5] (H, z) (.inr none, (H', z)) ∧ H'[h0]? = some (.inr (1, [.int ((t_X1_tell x1 x2 x3 x4 x5).1), .int ((t_X1_tell x1 x2 x3 x4 x5).2.1), .int ((t_X1_tell x1 x2 x3 x4 x5).2.2.1), .int ((t_X1_tell x1 x2 x3 x4 x5).2.2.2.1), .int ((t_X1_tell x1 x2 x3 x4 x5).2.2.2.2.1), .int ((t_X1_tell x1 x2 x3 x4 x5).2.2.2.2.2)])) ∧ xfr [h0] H H' := by
  have G : ∀ x, t_X1_tell x1 x2 x3 x4 x5 = x → Go S d 12 (0, [some (.ref h0), some (.int x1), some (.int x2), some (.int x3), some (.int x4), some (.int x5)], []) (H, z) (fun _ _ => False) (fun r => ∃ H' : List xE, r = (.inr none, (H', z)) ∧ H'[h0]? = some (.inr (1, [.int x.1, .int x.2.1, .int x.2.2.1, .int x.2.2.2.1, .int x.2.2.2.2.1, .int x.2.2.2.2.2])) ∧ xfr [h0] H H') := by
    intro x h
    unfold t_X1_tell at h
    refine go_step (fun _ => ev_run 2 (F' := (2, [some (.ref h0), some (.int x1), some (.int x2), some (.int x3), some (.int x4), some (.int x5)], [.int x1, .ref h0])) rfl) ?_
    refine go_putf rfl u_h0 rfl (fun H1 (eH1 : H1[h0]? = some (.inr (1, [.int x1, .int ch0_1, .int ch0_2, .int ch0_3, .int ch0_4, .int ch0_5]))) fH1 => ?_)
    refine go_step (fun _ => ev_run 2 (F' := (7, [some (.ref h0), some (.int x1), some (.int x2), some (.int x3), some (.int x4), some (.int x5)], [.int x2, .ref h0])) rfl) ?_
    refine go_putf rfl eH1 rfl (fun H2 (eH2 : H2[h0]? = some (.inr (1, [.int x1, .int x2, .int ch0_2, .int ch0_3, .int ch0_4, .int ch0_5]))) fH2 => ?_)
    refine go_step (fun _ => ev_run 2 (F' := (12, [some (.ref h0), some (.int x1), some (.int x2), some (.int x3), some (.int x4), some (.int x5)], [.int x3, .ref h0])) rfl) ?_
    refine go_putf rfl eH2 rfl (fun H3 (eH3 : H3[h0]? = some (.inr (1, [.int x1, .int x2, .int x3, .int ch0_3, .int ch0_4, .int ch0_5]))) fH3 => ?_)
    refine go_step (fun _ => ev_run 2 (F' := (18, [some (.ref h0), some (.int x1), some (.int x2), some (.int x3), some (.int x4), some (.int x5)], [.int x4, .ref h0])) rfl) ?_
    refine go_putf rfl eH3 rfl (fun H4 (eH4 : H4[h0]? = some (.inr (1, [.int x1, .int x2, .int x3, .int x4, .int ch0_4, .int ch0_5]))) fH4 => ?_)
    refine go_step (fun _ => ev_run 4 (F' := (26, [some (.ref h0), some (.int x1), some (.int x2), some (.int x3), some (.int x4), some (.int x5)], [.int (x5 &&& (1 : Int32)), .ref h0])) rfl) ?_
    refine go_if rfl (fun (b26 : (x5 &&& (1 : Int32)) = (0 : Int32)) => ?_) (fun (b26 : ¬ ((x5 &&& (1 : Int32)) = (0 : Int32))) => ?_)
    · have h := (if_pos b26).symm.trans h
      refine go_step (fun _ => ev_run 1 (F' := (34, [some (.ref h0), some (.int x1), some (.int x2), some (.int x3), some (.int x4), some (.int x5)], [.int (0 : Int32), .ref h0])) rfl) ?_
      refine go_putf rfl eH4 rfl (fun H5 (eH5 : H5[h0]? = some (.inr (1, [.int x1, .int x2, .int x3, .int x4, .int (0 : Int32), .int ch0_5]))) fH5 => ?_)
      refine go_step (fun _ => ev_run 4 (F' := (42, [some (.ref h0), some (.int x1), some (.int x2), some (.int x3), some (.int x4), some (.int x5)], [.int (x5 &&& (2 : Int32)), .ref h0])) rfl) ?_
      refine go_if rfl (fun (b42 : (x5 &&& (2 : Int32)) = (0 : Int32)) => ?_) (fun (b42 : ¬ ((x5 &&& (2 : Int32)) = (0 : Int32))) => ?_)
      · have h := (if_pos b42).symm.trans h
        refine go_step (fun _ => ev_run 1 (F' := (50, [some (.ref h0), some (.int x1), some (.int x2), some (.int x3), some (.int x4), some (.int x5)], [.int (0 : Int32), .ref h0])) rfl) ?_
        refine go_putf rfl eH5 rfl (fun H6 (eH6 : H6[h0]? = some (.inr (1, [.int x1, .int x2, .int x3, .int x4, .int (0 : Int32), .int (0 : Int32)]))) fH6 => ?_)
        cases h
        exact Or.inr ⟨_, ev_ret rfl rfl rfl rfl, H6, rfl, eH6, (xfr_t (xfr_t (xfr_t (xfr_t (xfr_t (xfr_t xfr_refl (xs_c xm_h rfl) fH1) (xs_c xm_h rfl) fH2) (xs_c xm_h rfl) fH3) (xs_c xm_h rfl) fH4) (xs_c xm_h rfl) fH5) (xs_c xm_h rfl) fH6)⟩
      · have h := (if_neg b42).symm.trans h
        refine go_step (fun _ => ev_run 2 (F' := (50, [some (.ref h0), some (.int x1), some (.int x2), some (.int x3), some (.int x4), some (.int x5)], [.int (1 : Int32), .ref h0])) rfl) ?_
        refine go_putf rfl eH5 rfl (fun H7 (eH7 : H7[h0]? = some (.inr (1, [.int x1, .int x2, .int x3, .int x4, .int (0 : Int32), .int (1 : Int32)]))) fH7 => ?_)
        cases h
        exact Or.inr ⟨_, ev_ret rfl rfl rfl rfl, H7, rfl, eH7, (xfr_t (xfr_t (xfr_t (xfr_t (xfr_t (xfr_t xfr_refl (xs_c xm_h rfl) fH1) (xs_c xm_h rfl) fH2) (xs_c xm_h rfl) fH3) (xs_c xm_h rfl) fH4) (xs_c xm_h rfl) fH5) (xs_c xm_h rfl) fH7)⟩
    · have h := (if_neg b26).symm.trans h
      refine go_step (fun _ => ev_run 2 (F' := (34, [some (.ref h0), some (.int x1), some (.int x2), some (.int x3), some (.int x4), some (.int x5)], [.int (1 : Int32), .ref h0])) rfl) ?_
      refine go_putf rfl eH4 rfl (fun H8 (eH8 : H8[h0]? = some (.inr (1, [.int x1, .int x2, .int x3, .int x4, .int (1 : Int32), .int ch0_5]))) fH8 => ?_)
      refine go_step (fun _ => ev_run 4 (F' := (42, [some (.ref h0), some (.int x1), some (.int x2), some (.int x3), some (.int x4), some (.int x5)], [.int (x5 &&& (2 : Int32)), .ref h0])) rfl) ?_
      refine go_if rfl (fun (b42 : (x5 &&& (2 : Int32)) = (0 : Int32)) => ?_) (fun (b42 : ¬ ((x5 &&& (2 : Int32)) = (0 : Int32))) => ?_)
      · have h := (if_pos b42).symm.trans h
        refine go_step (fun _ => ev_run 1 (F' := (50, [some (.ref h0), some (.int x1), some (.int x2), some (.int x3), some (.int x4), some (.int x5)], [.int (0 : Int32), .ref h0])) rfl) ?_
        refine go_putf rfl eH8 rfl (fun H9 (eH9 : H9[h0]? = some (.inr (1, [.int x1, .int x2, .int x3, .int x4, .int (1 : Int32), .int (0 : Int32)]))) fH9 => ?_)
        cases h
        exact Or.inr ⟨_, ev_ret rfl rfl rfl rfl, H9, rfl, eH9, (xfr_t (xfr_t (xfr_t (xfr_t (xfr_t (xfr_t xfr_refl (xs_c xm_h rfl) fH1) (xs_c xm_h rfl) fH2) (xs_c xm_h rfl) fH3) (xs_c xm_h rfl) fH4) (xs_c xm_h rfl) fH8) (xs_c xm_h rfl) fH9)⟩
      · have h := (if_neg b42).symm.trans h
        refine go_step (fun _ => ev_run 2 (F' := (50, [some (.ref h0), some (.int x1), some (.int x2), some (.int x3), some (.int x4), some (.int x5)], [.int (1 : Int32), .ref h0])) rfl) ?_
        refine go_putf rfl eH8 rfl (fun H10 (eH10 : H10[h0]? = some (.inr (1, [.int x1, .int x2, .int x3, .int x4, .int (1 : Int32), .int (1 : Int32)]))) fH10 => ?_)
        cases h
        exact Or.inr ⟨_, ev_ret rfl rfl rfl rfl, H10, rfl, eH10, (xfr_t (xfr_t (xfr_t (xfr_t (xfr_t (xfr_t xfr_refl (xs_c xm_h rfl) fH1) (xs_c xm_h rfl) fH2) (xs_c xm_h rfl) fH3) (xs_c xm_h rfl) fH4) (xs_c xm_h rfl) fH8) (xs_c xm_h rfl) fH10)⟩
  obtain ⟨_, hE, H', rfl, hrest⟩ := go_end (G _ rfl)
  exact ⟨H', hE, hrest⟩
def t_X1_width (ch0_0 : Int32) : Int32 := ch0_0
theorem C_X1_width {S : Nat × (Nat → Int32)} {d : Nat} {H : List xE} {z : Bool × Nat × Nat} {h0 : Nat} {ch0_0 : Int32} {ch0_1 : Int32} {ch0_2 : Int32} {ch0_3 : Int32} {ch0_4 : Int32} {ch0_5 : Int32} (u_h0 : H[h0]? = some (.inr (1, [.int ch0_0, .int ch0_1, .int ch0_2, .int ch0_3, .int ch0_4, .int ch0_5]))) : Cm S d 13 [.ref h0] (H, z) (.inr (some (.int (t_X1_width ch0_0))), (H, z)) := by
  have G : ∀ x, t_X1_width ch0_0 = x → Go S d 13 (0, [some (.ref h0)], []) (H, z) (fun _ _ => False) (fun r => r = (.inr (some (.int x)), (H, z))) := by
    intro x h
    unfold t_X1_width at h
    refine go_step (fun _ => ev_run 1 (F' := (1, [some (.ref h0)], [.ref h0])) rfl) ?_
    refine go_step (fun _ => ev_getf rfl u_h0 rfl) ?_
    cases h
    exact Or.inr ⟨_, ev_ret rfl rfl rfl rfl, rfl⟩
  obtain ⟨_, hE, rfl⟩ := go_end (G _ rfl)
  exact hE
def t_X1_number (ch0_0 : Int32) (ch0_1 : Int32) : Int64 := (((1 : Int64) <<< (ch0_0.toInt64 &&& (63 : Int64))) ||| ((ch0_1.toInt64) &&& (4294967295 : Int64)))
theorem C_X1_number {S : Nat × (Nat → Int32)} {d : Nat} {H : List xE} {z : Bool × Nat × Nat} {h0 : Nat} {ch0_0 : Int32} {ch0_1 : Int32} {ch0_2 : Int32} {ch0_3 : Int32} {ch0_4 : Int32} {ch0_5 : Int32} (u_h0 : H[h0]? = some (.inr (1, [.int ch0_0, .int ch0_1, .int ch0_2, .int ch0_3, .int ch0_4, .int ch0_5]))) : Cm S d 14 [.ref h0] (H, z) (.inr (some (.long (t_X1_number ch0_0 ch0_1))), (H, z)) := by
  have G : ∀ x, t_X1_number ch0_0 ch0_1 = x → Go S d 14 (0, [some (.ref h0)], []) (H, z) (fun _ _ => False) (fun r => r = (.inr (some (.long x)), (H, z))) := by
    intro x h
    unfold t_X1_number at h
    refine go_step (fun _ => ev_run 2 (F' := (2, [some (.ref h0)], [.ref h0, .long (1 : Int64)])) rfl) ?_
    refine go_step (fun _ => ev_getf rfl u_h0 rfl) ?_
    refine go_step (fun _ => ev_run 2 (F' := (7, [some (.ref h0)], [.ref h0, .long ((1 : Int64) <<< (ch0_0.toInt64 &&& (63 : Int64)))])) rfl) ?_
    refine go_step (fun _ => ev_getf rfl u_h0 rfl) ?_
    refine go_step (fun _ => ev_run 4 (F' := (16, [some (.ref h0)], [.long (((1 : Int64) <<< (ch0_0.toInt64 &&& (63 : Int64))) ||| ((ch0_1.toInt64) &&& (4294967295 : Int64)))])) rfl) ?_
    cases h
    exact Or.inr ⟨_, ev_ret rfl rfl rfl rfl, rfl⟩
  obtain ⟨_, hE, rfl⟩ := go_end (G _ rfl)
  exact hE
def q_X1_mirrored_L4 (x0 : Int32) (x1 : Int32) : Nat → Int32 → Int32 → Option (Int32 × Int32)
  | 0, _, _ => none
  | n + 1, l2, l3 => (if x1 ≤ l3 then (some (l2, l3)) else (q_X1_mirrored_L4 x0 x1 n ((l2 <<< ((1 : Int32) &&& (31 : Int32))) ||| ((xus x0 l3) &&& (1 : Int32))) (l3 + (1 : Int32))))
def q_X1_mirrored (x0 : Int32) (x1 : Int32) : Option Int32 := ((q_X1_mirrored_L4 x0 x1 10000 (0 : Int32) (0 : Int32)).bind (fun y1 => (some y1.1)))
theorem L_X1_mirrored_L4 {S : Nat × (Nat → Int32)} {d : Nat} {z : Bool × Nat × Nat} {x0 : Int32} {x1 : Int32} {H : List xE} : ∀ (n : Nat) (l2 : Int32) (l3 : Int32) x, q_X1_mirrored_L4 x0 x1 n l2 l3 = some x → Go S d 25 (4, [some (.int x0), some (.int x1), some (.int l2), some (.int l3)], []) (H, z) (fun F' M' =>  F' = (25, [none, none, some (.int x.1), none], []) ∧ M' = (H, z)) (fun _ => False) := by
  intro n
  induction n with
  | zero =>
    intro l2 l3 x h
    unfold q_X1_mirrored_L4 at h
    cases h
  | succ n ih =>
    intro l2 l3 x h
    unfold q_X1_mirrored_L4 at h
    refine go_step (fun _ => ev_run 2 (F' := (6, [some (.int x0), some (.int x1), some (.int l2), some (.int l3)], [.int x1, .int l3])) rfl) ?_
    refine go_icmp rfl (fun (b6 : x1 ≤ l3) => ?_) (fun (b6 : ¬ (x1 ≤ l3)) => ?_)
    · have h := (if_pos b6).symm.trans h
      refine go_step (fun _ => ev_forget (L' := [none, none, some (.int l2), none]) (show xleP _ [some (.int x0), some (.int x1), some (.int l2), some (.int l3)] from ⟨rfl, trivial⟩) rfl) ?_
      cases h
      exact Or.inl ⟨_, _, fun r hr => hr, rfl, rfl⟩
    · have h := (if_neg b6).symm.trans h
      refine go_step (fun _ => ev_run 12 (F' := (4, [some (.int x0), some (.int x1), some (.int ((l2 <<< ((1 : Int32) &&& (31 : Int32))) ||| ((xus x0 l3) &&& (1 : Int32)))), some (.int (l3 + (1 : Int32)))], [])) rfl) ?_
      exact ih ((l2 <<< ((1 : Int32) &&& (31 : Int32))) ||| ((xus x0 l3) &&& (1 : Int32))) (l3 + (1 : Int32)) _ h
theorem C_X1_mirrored {S : Nat × (Nat → Int32)} {d : Nat} {H : List xE} {z : Bool × Nat × Nat} {x0 : Int32} {x1 : Int32} {x : Int32} (h : q_X1_mirrored x0 x1 = some x) : Cm S d 25 [.int x0, .int x1] (H, z) (.inr (some (.int x)), (H, z)) := by
  have G : Go S d 25 (0, [some (.int x0), some (.int x1), none, none], []) (H, z) (fun _ _ => False) (fun r => r = (.inr (some (.int x)), (H, z))) := by
    unfold q_X1_mirrored at h
    refine go_step (fun _ => ev_run 4 (F' := (4, [some (.int x0), some (.int x1), some (.int (0 : Int32)), some (.int (0 : Int32))], [])) rfl) ?_
    obtain ⟨y1, hy1, h⟩ := okb h
    obtain ⟨_, _, hr2, rfl, rfl⟩ := go_nr (L_X1_mirrored_L4 (S := S) (d := d) (z := z) (x0 := x0) (x1 := x1) 10000 (0 : Int32) (0 : Int32) _ hy1)
    refine go_step hr2 ?_
    refine go_step (fun _ => ev_run 1 (F' := (26, [none, none, some (.int y1.1), none], [.int y1.1])) rfl) ?_
    cases h
    exact Or.inr ⟨_, ev_ret rfl rfl rfl rfl, rfl⟩
  obtain ⟨_, hE, rfl⟩ := go_end G
  exact hE
def t_X1_timesZ (x1 : Int32) (ch0_0 : Int32) (ch0_1 : Int32) : Int32 := (if ¬ ((xus x1 (ch0_0 - (1 : Int32))) &&& (1 : Int32)) = (0 : Int32) then (((x1 <<< ((1 : Int32) &&& (31 : Int32))) &&& (xus (-1 : Int32) ((32 : Int32) - ch0_0))) ^^^ ch0_1) else ((x1 <<< ((1 : Int32) &&& (31 : Int32))) &&& (xus (-1 : Int32) ((32 : Int32) - ch0_0))))
theorem C_X1_timesZ {S : Nat × (Nat → Int32)} {d : Nat} {H : List xE} {z : Bool × Nat × Nat} {h0 : Nat} {ch0_0 : Int32} {ch0_1 : Int32} {ch0_2 : Int32} {ch0_3 : Int32} {ch0_4 : Int32} {ch0_5 : Int32} {x1 : Int32} (u_h0 : H[h0]? = some (.inr (1, [.int ch0_0, .int ch0_1, .int ch0_2, .int ch0_3, .int ch0_4, .int ch0_5]))) : Cm S d 19 [.ref h0, .int x1] (H, z) (.inr (some (.int (t_X1_timesZ x1 ch0_0 ch0_1))), (H, z)) := by
  have G : ∀ x, t_X1_timesZ x1 ch0_0 ch0_1 = x → Go S d 19 (0, [some (.ref h0), some (.int x1), none], []) (H, z) (fun _ _ => False) (fun r => r = (.inr (some (.int x)), (H, z))) := by
    intro x h
    unfold t_X1_timesZ at h
    refine go_step (fun _ => ev_run 6 (F' := (7, [some (.ref h0), some (.int x1), none], [.ref h0, .int (32 : Int32), .int (-1 : Int32), .int (x1 <<< ((1 : Int32) &&& (31 : Int32)))])) rfl) ?_
    refine go_step (fun _ => ev_getf rfl u_h0 rfl) ?_
    refine go_step (fun _ => ev_run 6 (F' := (16, [some (.ref h0), some (.int x1), some (.int ((x1 <<< ((1 : Int32) &&& (31 : Int32))) &&& (xus (-1 : Int32) ((32 : Int32) - ch0_0))))], [.ref h0, .int x1])) rfl) ?_
    refine go_step (fun _ => ev_getf rfl u_h0 rfl) ?_
    refine go_step (fun _ => ev_run 5 (F' := (24, [some (.ref h0), some (.int x1), some (.int ((x1 <<< ((1 : Int32) &&& (31 : Int32))) &&& (xus (-1 : Int32) ((32 : Int32) - ch0_0))))], [.int ((xus x1 (ch0_0 - (1 : Int32))) &&& (1 : Int32))])) rfl) ?_
    refine go_step (F1 := (37, [none, none, none], [.int (if ¬ ((xus x1 (ch0_0 - (1 : Int32))) &&& (1 : Int32)) = (0 : Int32) then (((x1 <<< ((1 : Int32) &&& (31 : Int32))) &&& (xus (-1 : Int32) ((32 : Int32) - ch0_0))) ^^^ ch0_1) else ((x1 <<< ((1 : Int32) &&& (31 : Int32))) &&& (xus (-1 : Int32) ((32 : Int32) - ch0_0))))])) (M1 := (H, z)) (fun r K => ?_) ?_
    · skip
      refine ev_if rfl (fun (b24 : ¬ ((xus x1 (ch0_0 - (1 : Int32))) &&& (1 : Int32)) = (0 : Int32)) => ?_) (fun (b24 : ¬ (¬ ((xus x1 (ch0_0 - (1 : Int32))) &&& (1 : Int32)) = (0 : Int32))) => ?_)
      · skip
        refine ev_run 2 (F' := (33, [some (.ref h0), some (.int x1), some (.int ((x1 <<< ((1 : Int32) &&& (31 : Int32))) &&& (xus (-1 : Int32) ((32 : Int32) - ch0_0))))], [.ref h0, .int ((x1 <<< ((1 : Int32) &&& (31 : Int32))) &&& (xus (-1 : Int32) ((32 : Int32) - ch0_0)))])) rfl ?_
        refine ev_getf rfl u_h0 rfl ?_
        refine ev_run 1 (F' := (37, [some (.ref h0), some (.int x1), some (.int ((x1 <<< ((1 : Int32) &&& (31 : Int32))) &&& (xus (-1 : Int32) ((32 : Int32) - ch0_0))))], [.int (((x1 <<< ((1 : Int32) &&& (31 : Int32))) &&& (xus (-1 : Int32) ((32 : Int32) - ch0_0))) ^^^ ch0_1)])) rfl ?_
        refine ev_forget (L' := [none, none, none]) (show xleP _ [some (.ref h0), some (.int x1), some (.int ((x1 <<< ((1 : Int32) &&& (31 : Int32))) &&& (xus (-1 : Int32) ((32 : Int32) - ch0_0))))] from trivial) rfl ?_
        exact ev_cast (show ((37, [none, none, none], [.int (((x1 <<< ((1 : Int32) &&& (31 : Int32))) &&& (xus (-1 : Int32) ((32 : Int32) - ch0_0))) ^^^ ch0_1)]) : xF) = (37, [none, none, none], [.int (if ¬ ((xus x1 (ch0_0 - (1 : Int32))) &&& (1 : Int32)) = (0 : Int32) then (((x1 <<< ((1 : Int32) &&& (31 : Int32))) &&& (xus (-1 : Int32) ((32 : Int32) - ch0_0))) ^^^ ch0_1) else ((x1 <<< ((1 : Int32) &&& (31 : Int32))) &&& (xus (-1 : Int32) ((32 : Int32) - ch0_0))))]) by first | (simp only [if_pos b24]; done) | rfl) rfl K
      · skip
        refine ev_run 2 (F' := (37, [some (.ref h0), some (.int x1), some (.int ((x1 <<< ((1 : Int32) &&& (31 : Int32))) &&& (xus (-1 : Int32) ((32 : Int32) - ch0_0))))], [.int ((x1 <<< ((1 : Int32) &&& (31 : Int32))) &&& (xus (-1 : Int32) ((32 : Int32) - ch0_0)))])) rfl ?_
        refine ev_forget (L' := [none, none, none]) (show xleP _ [some (.ref h0), some (.int x1), some (.int ((x1 <<< ((1 : Int32) &&& (31 : Int32))) &&& (xus (-1 : Int32) ((32 : Int32) - ch0_0))))] from trivial) rfl ?_
        exact ev_cast (show ((37, [none, none, none], [.int ((x1 <<< ((1 : Int32) &&& (31 : Int32))) &&& (xus (-1 : Int32) ((32 : Int32) - ch0_0)))]) : xF) = (37, [none, none, none], [.int (if ¬ ((xus x1 (ch0_0 - (1 : Int32))) &&& (1 : Int32)) = (0 : Int32) then (((x1 <<< ((1 : Int32) &&& (31 : Int32))) &&& (xus (-1 : Int32) ((32 : Int32) - ch0_0))) ^^^ ch0_1) else ((x1 <<< ((1 : Int32) &&& (31 : Int32))) &&& (xus (-1 : Int32) ((32 : Int32) - ch0_0))))]) by first | (simp only [if_neg b24]; done) | rfl) rfl K
    cases h
    exact Or.inr ⟨_, ev_ret rfl rfl rfl rfl, rfl⟩
  obtain ⟨_, hE, rfl⟩ := go_end (G _ rfl)
  exact hE
def q_X1_fed_L25 (x3 : Int32) (ch0_0 : Int32) (ch0_1 : Int32) : Nat → Int32 → Int32 → Option (Int32 × Int32)
  | 0, _, _ => none
  | n + 1, l4, l5 => (if l5 < (0 : Int32) then (some (l4, l5)) else (q_X1_fed_L25 x3 ch0_0 ch0_1 n (t_X1_timesZ (l4 ^^^ (((xus x3 l5) &&& (1 : Int32)) <<< ((ch0_0 - (1 : Int32)) &&& (31 : Int32)))) ch0_0 ch0_1) (l5 + (-1 : Int32))))
def q_X1_fed (x1 : Int32) (x2 : Int32) (ch0_0 : Int32) (ch0_1 : Int32) (ch0_4 : Int32) : Option Int32 := (if ch0_4 = (0 : Int32) then ((q_X1_fed_L25 x2 ch0_0 ch0_1 10000 x1 (7 : Int32)).bind (fun y1 => (some y1.1))) else ((q_X1_mirrored x2 (8 : Int32)).bind (fun y3 => ((q_X1_fed_L25 y3 ch0_0 ch0_1 10000 x1 (7 : Int32)).bind (fun y4 => (some y4.1))))))
theorem L_X1_fed_L25 {S : Nat × (Nat → Int32)} {d : Nat} {z : Bool × Nat × Nat} {h0 : Nat} {ch0_2 : Int32} {ch0_3 : Int32} {ch0_4 : Int32} {ch0_5 : Int32} {x3 : Int32} {ch0_0 : Int32} {ch0_1 : Int32} {H : List xE} (u_h0 : H[h0]? = some (.inr (1, [.int ch0_0, .int ch0_1, .int ch0_2, .int ch0_3, .int ch0_4, .int ch0_5]))) : ∀ (n : Nat) (l4 : Int32) (l5 : Int32) x, q_X1_fed_L25 x3 ch0_0 ch0_1 n l4 l5 = some x → Go S (d + 1) 20 (25, [some (.ref h0), none, none, some (.int x3), some (.int l4), some (.int l5)], []) (H, z) (fun F' M' =>  F' = (58, [none, none, none, none, some (.int x.1), none], []) ∧ M' = (H, z)) (fun _ => False) := by
  intro n
  induction n with
  | zero =>
    intro l4 l5 x h
    unfold q_X1_fed_L25 at h
    cases h
  | succ n ih =>
    intro l4 l5 x h
    unfold q_X1_fed_L25 at h
    refine go_step (fun _ => ev_run 1 (F' := (27, [some (.ref h0), none, none, some (.int x3), some (.int l4), some (.int l5)], [.int l5])) rfl) ?_
    refine go_if rfl (fun (b27 : l5 < (0 : Int32)) => ?_) (fun (b27 : ¬ (l5 < (0 : Int32))) => ?_)
    · have h := (if_pos b27).symm.trans h
      refine go_step (fun _ => ev_forget (L' := [none, none, none, none, some (.int l4), none]) (show xleP _ [some (.ref h0), none, none, some (.int x3), some (.int l4), some (.int l5)] from ⟨rfl, trivial⟩) rfl) ?_
      cases h
      exact Or.inl ⟨_, _, fun r hr => hr, rfl, rfl⟩
    · have h := (if_neg b27).symm.trans h
      refine go_step (fun _ => ev_run 8 (F' := (40, [some (.ref h0), none, none, some (.int x3), some (.int l4), some (.int l5)], [.ref h0, .int ((xus x3 l5) &&& (1 : Int32)), .int l4, .ref h0])) rfl) ?_
      refine go_step (fun _ => ev_getf rfl u_h0 rfl) ?_
      refine go_step (fun _ => ev_run 4 (F' := (47, [some (.ref h0), none, none, some (.int x3), some (.int l4), some (.int l5)], [.int (l4 ^^^ (((xus x3 l5) &&& (1 : Int32)) <<< ((ch0_0 - (1 : Int32)) &&& (31 : Int32)))), .ref h0])) rfl) ?_
      refine go_step (F1 := (50, [some (.ref h0), none, none, some (.int x3), some (.int l4), some (.int l5)], [.int (t_X1_timesZ (l4 ^^^ (((xus x3 l5) &&& (1 : Int32)) <<< ((ch0_0 - (1 : Int32)) &&& (31 : Int32)))) ch0_0 ch0_1)])) (M1 := (H, z)) (fun _ => ev_callV (x := (.invokevirtual 58, 3, 19, 1, 523, .null)) (as := [.int (l4 ^^^ (((xus x3 l5) &&& (1 : Int32)) <<< ((ch0_0 - (1 : Int32)) &&& (31 : Int32))))]) (rest := []) rfl rfl u_h0 (C_X1_timesZ (S := S) (d := d) (z := z) (x1 := (l4 ^^^ (((xus x3 l5) &&& (1 : Int32)) <<< ((ch0_0 - (1 : Int32)) &&& (31 : Int32))))) u_h0) rfl) ?_
      refine go_step (fun _ => ev_run 3 (F' := (25, [some (.ref h0), none, none, some (.int x3), some (.int (t_X1_timesZ (l4 ^^^ (((xus x3 l5) &&& (1 : Int32)) <<< ((ch0_0 - (1 : Int32)) &&& (31 : Int32)))) ch0_0 ch0_1)), some (.int (l5 + (-1 : Int32)))], [])) rfl) ?_
      exact ih (t_X1_timesZ (l4 ^^^ (((xus x3 l5) &&& (1 : Int32)) <<< ((ch0_0 - (1 : Int32)) &&& (31 : Int32)))) ch0_0 ch0_1) (l5 + (-1 : Int32)) _ h
theorem C_X1_fed {S : Nat × (Nat → Int32)} {d : Nat} {H : List xE} {z : Bool × Nat × Nat} {h0 : Nat} {ch0_0 : Int32} {ch0_1 : Int32} {ch0_2 : Int32} {ch0_3 : Int32} {ch0_4 : Int32} {ch0_5 : Int32} {x1 : Int32} {x2 : Int32} (u_h0 : H[h0]? = some (.inr (1, [.int ch0_0, .int ch0_1, .int ch0_2, .int ch0_3, .int ch0_4, .int ch0_5]))) {x : Int32} (h : q_X1_fed x1 x2 ch0_0 ch0_1 ch0_4 = some x) : Cm S (d + 1) 20 [.ref h0, .int x1, .int x2] (H, z) (.inr (some (.int x)), (H, z)) := by
  have G : Go S (d + 1) 20 (0, [some (.ref h0), some (.int x1), some (.int x2), none, none, none], []) (H, z) (fun _ _ => False) (fun r => r = (.inr (some (.int x)), (H, z))) := by
    unfold q_X1_fed at h
    refine go_step (fun _ => ev_run 1 (F' := (1, [some (.ref h0), some (.int x1), some (.int x2), none, none, none], [.ref h0])) rfl) ?_
    refine go_step (fun _ => ev_getf rfl u_h0 rfl) ?_
    refine go_if rfl (fun (b4 : ch0_4 = (0 : Int32)) => ?_) (fun (b4 : ¬ (ch0_4 = (0 : Int32))) => ?_)
    · have h := (if_pos b4).symm.trans h
      refine go_step (fun _ => ev_run 6 (F' := (25, [some (.ref h0), some (.int x1), some (.int x2), some (.int x2), some (.int x1), some (.int (7 : Int32))], [])) rfl) ?_
      refine go_step (fun _ => ev_forget (L' := [some (.ref h0), none, none, some (.int x2), some (.int x1), some (.int (7 : Int32))]) (show xleP _ [some (.ref h0), some (.int x1), some (.int x2), some (.int x2), some (.int x1), some (.int (7 : Int32))] from ⟨rfl, ⟨rfl, ⟨rfl, ⟨rfl, trivial⟩⟩⟩⟩) rfl) ?_
      obtain ⟨y1, hy1, h⟩ := okb h
      obtain ⟨_, _, hr2, rfl, rfl⟩ := go_nr (L_X1_fed_L25 (S := S) (d := d) (z := z) (x3 := x2) u_h0 10000 x1 (7 : Int32) _ hy1)
      refine go_step hr2 ?_
      refine go_step (fun _ => ev_run 1 (F' := (60, [none, none, none, none, some (.int y1.1), none], [.int y1.1])) rfl) ?_
      cases h
      exact Or.inr ⟨_, ev_ret rfl rfl rfl rfl, rfl⟩
    · have h := (if_neg b4).symm.trans h
      refine go_step (fun _ => ev_run 2 (F' := (10, [some (.ref h0), some (.int x1), some (.int x2), none, none, none], [.int (8 : Int32), .int x2])) rfl) ?_
      obtain ⟨y3, hy3, h⟩ := okb h
      refine go_step (F1 := (13, [some (.ref h0), some (.int x1), some (.int x2), none, none, none], [.int y3])) (M1 := (H, z)) (fun _ => ev_call (x := (.invokestatic 55, 3, 25, 1, 520, .null)) (as := [.int x2, .int (8 : Int32)]) (rest := []) rfl rfl (C_X1_mirrored (S := S) (d := d) (z := z) (x0 := x2) (x1 := (8 : Int32)) hy3) rfl) ?_
      refine go_step (fun _ => ev_run 6 (F' := (25, [some (.ref h0), some (.int x1), some (.int x2), some (.int y3), some (.int x1), some (.int (7 : Int32))], [])) rfl) ?_
      refine go_step (fun _ => ev_forget (L' := [some (.ref h0), none, none, some (.int y3), some (.int x1), some (.int (7 : Int32))]) (show xleP _ [some (.ref h0), some (.int x1), some (.int x2), some (.int y3), some (.int x1), some (.int (7 : Int32))] from ⟨rfl, ⟨rfl, ⟨rfl, ⟨rfl, trivial⟩⟩⟩⟩) rfl) ?_
      obtain ⟨y4, hy4, h⟩ := okb h
      obtain ⟨_, _, hr5, rfl, rfl⟩ := go_nr (L_X1_fed_L25 (S := S) (d := d) (z := z) (x3 := y3) u_h0 10000 x1 (7 : Int32) _ hy4)
      refine go_step hr5 ?_
      refine go_step (fun _ => ev_run 1 (F' := (60, [none, none, none, none, some (.int y4.1), none], [.int y4.1])) rfl) ?_
      cases h
      exact Or.inr ⟨_, ev_ret rfl rfl rfl rfl, rfl⟩
  obtain ⟨_, hE, rfl⟩ := go_end G
  exact hE
def q_X1_sumOfRegister (x1 : Int32) (ch0_0 : Int32) (ch0_3 : Int32) (ch0_5 : Int32) : Option Int64 := (if ch0_5 = (0 : Int32) then (some (((x1 ^^^ ch0_3).toInt64) &&& (4294967295 : Int64))) else ((q_X1_mirrored x1 ch0_0).bind (fun y1 => (some (((y1 ^^^ ch0_3).toInt64) &&& (4294967295 : Int64))))))
theorem C_X1_sumOfRegister {S : Nat × (Nat → Int32)} {d : Nat} {H : List xE} {z : Bool × Nat × Nat} {h0 : Nat} {ch0_0 : Int32} {ch0_1 : Int32} {ch0_2 : Int32} {ch0_3 : Int32} {ch0_4 : Int32} {ch0_5 : Int32} {x1 : Int32} (u_h0 : H[h0]? = some (.inr (1, [.int ch0_0, .int ch0_1, .int ch0_2, .int ch0_3, .int ch0_4, .int ch0_5]))) {x : Int64} (h : q_X1_sumOfRegister x1 ch0_0 ch0_3 ch0_5 = some x) : Cm S (d + 1) 21 [.ref h0, .int x1] (H, z) (.inr (some (.long x)), (H, z)) := by
  have G : Go S (d + 1) 21 (0, [some (.ref h0), some (.int x1)], []) (H, z) (fun _ _ => False) (fun r => r = (.inr (some (.long x)), (H, z))) := by
    unfold q_X1_sumOfRegister at h
    refine go_step (fun _ => ev_run 1 (F' := (1, [some (.ref h0), some (.int x1)], [.ref h0])) rfl) ?_
    refine go_step (fun _ => ev_getf rfl u_h0 rfl) ?_
    refine go_if rfl (fun (b4 : ch0_5 = (0 : Int32)) => ?_) (fun (b4 : ¬ (ch0_5 = (0 : Int32))) => ?_)
    · have h := (if_pos b4).symm.trans h
      refine go_step (fun _ => ev_run 2 (F' := (20, [some (.ref h0), some (.int x1)], [.ref h0, .int x1])) rfl) ?_
      refine go_step (fun _ => ev_getf rfl u_h0 rfl) ?_
      refine go_step (fun _ => ev_run 4 (F' := (29, [some (.ref h0), some (.int x1)], [.long (((x1 ^^^ ch0_3).toInt64) &&& (4294967295 : Int64))])) rfl) ?_
      cases h
      exact Or.inr ⟨_, ev_ret rfl rfl rfl rfl, rfl⟩
    · have h := (if_neg b4).symm.trans h
      refine go_step (fun _ => ev_run 2 (F' := (9, [some (.ref h0), some (.int x1)], [.ref h0, .int x1])) rfl) ?_
      refine go_step (fun _ => ev_getf rfl u_h0 rfl) ?_
      obtain ⟨y1, hy1, h⟩ := okb h
      refine go_step (F1 := (15, [some (.ref h0), some (.int x1)], [.int y1])) (M1 := (H, z)) (fun _ => ev_call (x := (.invokestatic 55, 3, 25, 1, 520, .null)) (as := [.int x1, .int ch0_0]) (rest := []) rfl rfl (C_X1_mirrored (S := S) (d := d) (z := z) (x0 := x1) (x1 := ch0_0) hy1) rfl) ?_
      refine go_step (fun _ => ev_run 2 (F' := (20, [some (.ref h0), some (.int x1)], [.ref h0, .int y1])) rfl) ?_
      refine go_step (fun _ => ev_getf rfl u_h0 rfl) ?_
      refine go_step (fun _ => ev_run 4 (F' := (29, [some (.ref h0), some (.int x1)], [.long (((y1 ^^^ ch0_3).toInt64) &&& (4294967295 : Int64))])) rfl) ?_
      cases h
      exact Or.inr ⟨_, ev_ret rfl rfl rfl rfl, rfl⟩
  obtain ⟨_, hE, rfl⟩ := go_end G
  exact hE
def q_X1_sumOf_L9 (x3 : Int32) (ch0_0 : Int32) (ch0_1 : Int32) (ch0_4 : Int32) (a2 : Nat → Int32) : Nat → Int32 → Int32 → Option (Int32 × Int32)
  | 0, _, _ => none
  | n + 1, l4, l5 => (if x3 ≤ l5 then (some (l4, l5)) else ((q_X1_fed l4 (t_X5_at l5 64 a2) ch0_0 ch0_1 ch0_4).bind (fun y1 => (q_X1_sumOf_L9 x3 ch0_0 ch0_1 ch0_4 a2 n y1 (l5 + (1 : Int32))))))
def q_X1_sumOf (x2 : Int32) (x3 : Int32) (ch0_0 : Int32) (ch0_1 : Int32) (ch0_2 : Int32) (ch0_3 : Int32) (ch0_4 : Int32) (ch0_5 : Int32) (a2 : Nat → Int32) : Option Int64 := ((q_X1_sumOf_L9 x3 ch0_0 ch0_1 ch0_4 a2 10000 ch0_2 x2).bind (fun y1 => ((q_X1_sumOfRegister y1.1 ch0_0 ch0_3 ch0_5).bind (fun y3 => (some y3)))))
theorem L_X1_sumOf_L9 {S : Nat × (Nat → Int32)} {d : Nat} {z : Bool × Nat × Nat} {h0 : Nat} {ch0_2 : Int32} {ch0_3 : Int32} {ch0_5 : Int32} {c1_1 : Int32} {x3 : Int32} {ch0_0 : Int32} {ch0_1 : Int32} {ch0_4 : Int32} {a2 : Nat → Int32} {H : List xE} (u_h0 : H[h0]? = some (.inr (1, [.int ch0_0, .int ch0_1, .int ch0_2, .int ch0_3, .int ch0_4, .int ch0_5]))) (u_1 : H[1]? = some (.inr (4, [.ref 2, .int c1_1]))) (u_2 : H[2]? = some (.inl (0, 64, .inl a2))) : ∀ (n : Nat) (l4 : Int32) (l5 : Int32) x, q_X1_sumOf_L9 x3 ch0_0 ch0_1 ch0_4 a2 n l4 l5 = some x → Go S (d + 2) 15 (9, [some (.ref h0), some (.ref 1), none, some (.int x3), some (.int l4), some (.int l5)], []) (H, z) (fun F' M' =>  F' = (35, [some (.ref h0), none, none, none, some (.int x.1), none], []) ∧ M' = (H, z)) (fun _ => False) := by
  intro n
  induction n with
  | zero =>
    intro l4 l5 x h
    unfold q_X1_sumOf_L9 at h
    cases h
  | succ n ih =>
    intro l4 l5 x h
    unfold q_X1_sumOf_L9 at h
    refine go_step (fun _ => ev_run 2 (F' := (12, [some (.ref h0), some (.ref 1), none, some (.int x3), some (.int l4), some (.int l5)], [.int x3, .int l5])) rfl) ?_
    refine go_icmp rfl (fun (b12 : x3 ≤ l5) => ?_) (fun (b12 : ¬ (x3 ≤ l5)) => ?_)
    · have h := (if_pos b12).symm.trans h
      refine go_step (fun _ => ev_forget (L' := [some (.ref h0), none, none, none, some (.int l4), none]) (show xleP _ [some (.ref h0), some (.ref 1), none, some (.int x3), some (.int l4), some (.int l5)] from ⟨rfl, ⟨rfl, trivial⟩⟩) rfl) ?_
      cases h
      exact Or.inl ⟨_, _, fun r hr => hr, rfl, rfl⟩
    · have h := (if_neg b12).symm.trans h
      refine go_step (fun _ => ev_run 4 (F' := (21, [some (.ref h0), some (.ref 1), none, some (.int x3), some (.int l4), some (.int l5)], [.int l5, .ref 1, .int l4, .ref h0])) rfl) ?_
      refine go_step (F1 := (24, [some (.ref h0), some (.ref 1), none, some (.int x3), some (.int l4), some (.int l5)], [.int (t_X5_at l5 64 a2), .int l4, .ref h0])) (M1 := (H, z)) (fun _ => ev_callV (x := (.invokevirtual 34, 3, 55, 4, 515, .null)) (as := [.int l5]) (rest := [.int l4, .ref h0]) rfl rfl u_1 (C_X5_at (S := S) (d := d + 1) (z := z) (x1 := l5) u_1 u_2 (by decide)) rfl) ?_
      obtain ⟨y1, hy1, h⟩ := okb h
      refine go_step (F1 := (27, [some (.ref h0), some (.ref 1), none, some (.int x3), some (.int l4), some (.int l5)], [.int y1])) (M1 := (H, z)) (fun _ => ev_callV (x := (.invokevirtual 40, 3, 20, 1, 516, .null)) (as := [.int l4, .int (t_X5_at l5 64 a2)]) (rest := []) rfl rfl u_h0 (C_X1_fed (S := S) (d := d) (z := z) (x1 := l4) (x2 := (t_X5_at l5 64 a2)) u_h0 hy1) rfl) ?_
      refine go_step (fun _ => ev_run 3 (F' := (9, [some (.ref h0), some (.ref 1), none, some (.int x3), some (.int y1), some (.int (l5 + (1 : Int32)))], [])) rfl) ?_
      exact ih y1 (l5 + (1 : Int32)) _ h
theorem C_X1_sumOf {S : Nat × (Nat → Int32)} {d : Nat} {H : List xE} {z : Bool × Nat × Nat} {h0 : Nat} {ch0_0 : Int32} {ch0_1 : Int32} {ch0_2 : Int32} {ch0_3 : Int32} {ch0_4 : Int32} {ch0_5 : Int32} {c1_1 : Int32} {a2 : Nat → Int32} {x2 : Int32} {x3 : Int32} (u_h0 : H[h0]? = some (.inr (1, [.int ch0_0, .int ch0_1, .int ch0_2, .int ch0_3, .int ch0_4, .int ch0_5]))) (u_1 : H[1]? = some (.inr (4, [.ref 2, .int c1_1]))) (u_2 : H[2]? = some (.inl (0, 64, .inl a2))) {x : Int64} (h : q_X1_sumOf x2 x3 ch0_0 ch0_1 ch0_2 ch0_3 ch0_4 ch0_5 a2 = some x) : Cm S (d + 2) 15 [.ref h0, .ref 1, .int x2, .int x3] (H, z) (.inr (some (.long x)), (H, z)) := by
  have G : Go S (d + 2) 15 (0, [some (.ref h0), some (.ref 1), some (.int x2), some (.int x3), none, none], []) (H, z) (fun _ _ => False) (fun r => r = (.inr (some (.long x)), (H, z))) := by
    unfold q_X1_sumOf at h
    refine go_step (fun _ => ev_run 1 (F' := (1, [some (.ref h0), some (.ref 1), some (.int x2), some (.int x3), none, none], [.ref h0])) rfl) ?_
    refine go_step (fun _ => ev_getf rfl u_h0 rfl) ?_
    refine go_step (fun _ => ev_run 3 (F' := (9, [some (.ref h0), some (.ref 1), some (.int x2), some (.int x3), some (.int ch0_2), some (.int x2)], [])) rfl) ?_
    refine go_step (fun _ => ev_forget (L' := [some (.ref h0), some (.ref 1), none, some (.int x3), some (.int ch0_2), some (.int x2)]) (show xleP _ [some (.ref h0), some (.ref 1), some (.int x2), some (.int x3), some (.int ch0_2), some (.int x2)] from ⟨rfl, ⟨rfl, ⟨rfl, ⟨rfl, ⟨rfl, trivial⟩⟩⟩⟩⟩) rfl) ?_
    obtain ⟨y1, hy1, h⟩ := okb h
    obtain ⟨_, _, hr2, rfl, rfl⟩ := go_nr (L_X1_sumOf_L9 (S := S) (d := d) (z := z) (x3 := x3) u_h0 u_1 u_2 10000 ch0_2 x2 _ hy1)
    refine go_step hr2 ?_
    refine go_step (fun _ => ev_run 2 (F' := (38, [some (.ref h0), none, none, none, some (.int y1.1), none], [.int y1.1, .ref h0])) rfl) ?_
    obtain ⟨y3, hy3, h⟩ := okb h
    refine go_step (F1 := (41, [some (.ref h0), none, none, none, some (.int y1.1), none], [.long y3])) (M1 := (H, z)) (fun _ => ev_callV (x := (.invokevirtual 44, 3, 21, 1, 527, .null)) (as := [.int y1.1]) (rest := []) rfl rfl u_h0 (C_X1_sumOfRegister (S := S) (d := d) (z := z) (x1 := y1.1) u_h0 hy3) rfl) ?_
    cases h
    exact Or.inr ⟨_, ev_ret rfl rfl rfl rfl, rfl⟩
  obtain ⟨_, hE, rfl⟩ := go_end G
  exact hE
def q_X1_registerOfSum (x1 : Int64) (ch0_0 : Int32) (ch0_3 : Int32) (ch0_5 : Int32) : Option Int32 := (if ch0_5 = (0 : Int32) then (some ((x1.toInt32) ^^^ ch0_3)) else ((q_X1_mirrored ((x1.toInt32) ^^^ ch0_3) ch0_0).bind (fun y1 => (some y1))))
theorem C_X1_registerOfSum {S : Nat × (Nat → Int32)} {d : Nat} {H : List xE} {z : Bool × Nat × Nat} {h0 : Nat} {ch0_0 : Int32} {ch0_1 : Int32} {ch0_2 : Int32} {ch0_3 : Int32} {ch0_4 : Int32} {ch0_5 : Int32} {x1 : Int64} (u_h0 : H[h0]? = some (.inr (1, [.int ch0_0, .int ch0_1, .int ch0_2, .int ch0_3, .int ch0_4, .int ch0_5]))) {x : Int32} (h : q_X1_registerOfSum x1 ch0_0 ch0_3 ch0_5 = some x) : Cm S (d + 1) 22 [.ref h0, .long x1] (H, z) (.inr (some (.int x)), (H, z)) := by
  have G : Go S (d + 1) 22 (0, [some (.ref h0), some (.long x1), none, none], []) (H, z) (fun _ _ => False) (fun r => r = (.inr (some (.int x)), (H, z))) := by
    unfold q_X1_registerOfSum at h
    refine go_step (fun _ => ev_run 3 (F' := (3, [some (.ref h0), some (.long x1), none, none], [.ref h0, .int (x1.toInt32)])) rfl) ?_
    refine go_step (fun _ => ev_getf rfl u_h0 rfl) ?_
    refine go_step (fun _ => ev_run 3 (F' := (9, [some (.ref h0), some (.long x1), none, some (.int ((x1.toInt32) ^^^ ch0_3))], [.ref h0])) rfl) ?_
    refine go_step (fun _ => ev_getf rfl u_h0 rfl) ?_
    refine go_if rfl (fun (b12 : ch0_5 = (0 : Int32)) => ?_) (fun (b12 : ¬ (ch0_5 = (0 : Int32))) => ?_)
    · have h := (if_pos b12).symm.trans h
      refine go_step (fun _ => ev_run 1 (F' := (27, [some (.ref h0), some (.long x1), none, some (.int ((x1.toInt32) ^^^ ch0_3))], [.int ((x1.toInt32) ^^^ ch0_3)])) rfl) ?_
      cases h
      exact Or.inr ⟨_, ev_ret rfl rfl rfl rfl, rfl⟩
    · have h := (if_neg b12).symm.trans h
      refine go_step (fun _ => ev_run 2 (F' := (17, [some (.ref h0), some (.long x1), none, some (.int ((x1.toInt32) ^^^ ch0_3))], [.ref h0, .int ((x1.toInt32) ^^^ ch0_3)])) rfl) ?_
      refine go_step (fun _ => ev_getf rfl u_h0 rfl) ?_
      obtain ⟨y1, hy1, h⟩ := okb h
      refine go_step (F1 := (23, [some (.ref h0), some (.long x1), none, some (.int ((x1.toInt32) ^^^ ch0_3))], [.int y1])) (M1 := (H, z)) (fun _ => ev_call (x := (.invokestatic 55, 3, 25, 1, 520, .null)) (as := [.int ((x1.toInt32) ^^^ ch0_3), .int ch0_0]) (rest := []) rfl rfl (C_X1_mirrored (S := S) (d := d) (z := z) (x0 := ((x1.toInt32) ^^^ ch0_3)) (x1 := ch0_0) hy1) rfl) ?_
      refine go_step (fun _ => ev_run 1 (F' := (27, [some (.ref h0), some (.long x1), none, some (.int ((x1.toInt32) ^^^ ch0_3))], [.int y1])) rfl) ?_
      cases h
      exact Or.inr ⟨_, ev_ret rfl rfl rfl rfl, rfl⟩
  obtain ⟨_, hE, rfl⟩ := go_end G
  exact hE
def q_X1_times_L10 (x1 : Int32) (x2 : Int32) (ch0_0 : Int32) (ch0_1 : Int32) : Nat → Int32 → Int32 → Option (Int32 × Int32)
  | 0, _, _ => none
  | n + 1, l3, l4 => (if l4 < (0 : Int32) then (some (l3, l4)) else (q_X1_times_L10 x1 x2 ch0_0 ch0_1 n (if ((xus x2 l4) &&& (1 : Int32)) = (0 : Int32) then (t_X1_timesZ l3 ch0_0 ch0_1) else ((t_X1_timesZ l3 ch0_0 ch0_1) ^^^ x1)) (l4 + (-1 : Int32))))
def q_X1_times (x1 : Int32) (x2 : Int32) (ch0_0 : Int32) (ch0_1 : Int32) : Option Int32 := ((q_X1_times_L10 x1 x2 ch0_0 ch0_1 10000 (0 : Int32) (ch0_0 - (1 : Int32))).bind (fun y1 => (some y1.1)))
theorem L_X1_times_L10 {S : Nat × (Nat → Int32)} {d : Nat} {z : Bool × Nat × Nat} {h0 : Nat} {ch0_2 : Int32} {ch0_3 : Int32} {ch0_4 : Int32} {ch0_5 : Int32} {x1 : Int32} {x2 : Int32} {ch0_0 : Int32} {ch0_1 : Int32} {H : List xE} (u_h0 : H[h0]? = some (.inr (1, [.int ch0_0, .int ch0_1, .int ch0_2, .int ch0_3, .int ch0_4, .int ch0_5]))) : ∀ (n : Nat) (l3 : Int32) (l4 : Int32) x, q_X1_times_L10 x1 x2 ch0_0 ch0_1 n l3 l4 = some x → Go S (d + 1) 24 (10, [some (.ref h0), some (.int x1), some (.int x2), some (.int l3), some (.int l4)], []) (H, z) (fun F' M' =>  F' = (40, [none, none, none, some (.int x.1), none], []) ∧ M' = (H, z)) (fun _ => False) := by
  intro n
  induction n with
  | zero =>
    intro l3 l4 x h
    unfold q_X1_times_L10 at h
    cases h
  | succ n ih =>
    intro l3 l4 x h
    unfold q_X1_times_L10 at h
    refine go_step (fun _ => ev_run 1 (F' := (12, [some (.ref h0), some (.int x1), some (.int x2), some (.int l3), some (.int l4)], [.int l4])) rfl) ?_
    refine go_if rfl (fun (b12 : l4 < (0 : Int32)) => ?_) (fun (b12 : ¬ (l4 < (0 : Int32))) => ?_)
    · have h := (if_pos b12).symm.trans h
      refine go_step (fun _ => ev_forget (L' := [none, none, none, some (.int l3), none]) (show xleP _ [some (.ref h0), some (.int x1), some (.int x2), some (.int l3), some (.int l4)] from ⟨rfl, trivial⟩) rfl) ?_
      cases h
      exact Or.inl ⟨_, _, fun r hr => hr, rfl, rfl⟩
    · have h := (if_neg b12).symm.trans h
      refine go_step (fun _ => ev_run 2 (F' := (17, [some (.ref h0), some (.int x1), some (.int x2), some (.int l3), some (.int l4)], [.int l3, .ref h0])) rfl) ?_
      refine go_step (F1 := (20, [some (.ref h0), some (.int x1), some (.int x2), some (.int l3), some (.int l4)], [.int (t_X1_timesZ l3 ch0_0 ch0_1)])) (M1 := (H, z)) (fun _ => ev_callV (x := (.invokevirtual 58, 3, 19, 1, 523, .null)) (as := [.int l3]) (rest := []) rfl rfl u_h0 (C_X1_timesZ (S := S) (d := d) (z := z) (x1 := l3) u_h0) rfl) ?_
      refine go_step (fun _ => ev_run 6 (F' := (27, [some (.ref h0), some (.int x1), some (.int x2), some (.int (t_X1_timesZ l3 ch0_0 ch0_1)), some (.int l4)], [.int ((xus x2 l4) &&& (1 : Int32))])) rfl) ?_
      refine go_step (F1 := (34, [some (.ref h0), some (.int x1), some (.int x2), some (.int (if ((xus x2 l4) &&& (1 : Int32)) = (0 : Int32) then (t_X1_timesZ l3 ch0_0 ch0_1) else ((t_X1_timesZ l3 ch0_0 ch0_1) ^^^ x1))), some (.int l4)], [])) (M1 := (H, z)) (fun r K => ?_) ?_
      · skip
        refine ev_if rfl (fun (b27 : ((xus x2 l4) &&& (1 : Int32)) = (0 : Int32)) => ?_) (fun (b27 : ¬ (((xus x2 l4) &&& (1 : Int32)) = (0 : Int32))) => ?_)
        · skip
          exact ev_cast (show ((34, [some (.ref h0), some (.int x1), some (.int x2), some (.int (t_X1_timesZ l3 ch0_0 ch0_1)), some (.int l4)], []) : xF) = (34, [some (.ref h0), some (.int x1), some (.int x2), some (.int (if ((xus x2 l4) &&& (1 : Int32)) = (0 : Int32) then (t_X1_timesZ l3 ch0_0 ch0_1) else ((t_X1_timesZ l3 ch0_0 ch0_1) ^^^ x1))), some (.int l4)], []) by first | (simp only [if_pos b27]; done) | rfl) rfl K
        · skip
          refine ev_run 4 (F' := (34, [some (.ref h0), some (.int x1), some (.int x2), some (.int ((t_X1_timesZ l3 ch0_0 ch0_1) ^^^ x1)), some (.int l4)], [])) rfl ?_
          exact ev_cast (show ((34, [some (.ref h0), some (.int x1), some (.int x2), some (.int ((t_X1_timesZ l3 ch0_0 ch0_1) ^^^ x1)), some (.int l4)], []) : xF) = (34, [some (.ref h0), some (.int x1), some (.int x2), some (.int (if ((xus x2 l4) &&& (1 : Int32)) = (0 : Int32) then (t_X1_timesZ l3 ch0_0 ch0_1) else ((t_X1_timesZ l3 ch0_0 ch0_1) ^^^ x1))), some (.int l4)], []) by first | (simp only [if_neg b27]; done) | rfl) rfl K
      refine go_step (fun _ => ev_run 2 (F' := (10, [some (.ref h0), some (.int x1), some (.int x2), some (.int (if ((xus x2 l4) &&& (1 : Int32)) = (0 : Int32) then (t_X1_timesZ l3 ch0_0 ch0_1) else ((t_X1_timesZ l3 ch0_0 ch0_1) ^^^ x1))), some (.int (l4 + (-1 : Int32)))], [])) rfl) ?_
      exact ih (if ((xus x2 l4) &&& (1 : Int32)) = (0 : Int32) then (t_X1_timesZ l3 ch0_0 ch0_1) else ((t_X1_timesZ l3 ch0_0 ch0_1) ^^^ x1)) (l4 + (-1 : Int32)) _ h
theorem C_X1_times {S : Nat × (Nat → Int32)} {d : Nat} {H : List xE} {z : Bool × Nat × Nat} {h0 : Nat} {ch0_0 : Int32} {ch0_1 : Int32} {ch0_2 : Int32} {ch0_3 : Int32} {ch0_4 : Int32} {ch0_5 : Int32} {x1 : Int32} {x2 : Int32} (u_h0 : H[h0]? = some (.inr (1, [.int ch0_0, .int ch0_1, .int ch0_2, .int ch0_3, .int ch0_4, .int ch0_5]))) {x : Int32} (h : q_X1_times x1 x2 ch0_0 ch0_1 = some x) : Cm S (d + 1) 24 [.ref h0, .int x1, .int x2] (H, z) (.inr (some (.int x)), (H, z)) := by
  have G : Go S (d + 1) 24 (0, [some (.ref h0), some (.int x1), some (.int x2), none, none], []) (H, z) (fun _ _ => False) (fun r => r = (.inr (some (.int x)), (H, z))) := by
    unfold q_X1_times at h
    refine go_step (fun _ => ev_run 3 (F' := (3, [some (.ref h0), some (.int x1), some (.int x2), some (.int (0 : Int32)), none], [.ref h0])) rfl) ?_
    refine go_step (fun _ => ev_getf rfl u_h0 rfl) ?_
    refine go_step (fun _ => ev_run 3 (F' := (10, [some (.ref h0), some (.int x1), some (.int x2), some (.int (0 : Int32)), some (.int (ch0_0 - (1 : Int32)))], [])) rfl) ?_
    obtain ⟨y1, hy1, h⟩ := okb h
    obtain ⟨_, _, hr2, rfl, rfl⟩ := go_nr (L_X1_times_L10 (S := S) (d := d) (z := z) (x1 := x1) (x2 := x2) u_h0 10000 (0 : Int32) (ch0_0 - (1 : Int32)) _ hy1)
    refine go_step hr2 ?_
    refine go_step (fun _ => ev_run 1 (F' := (41, [none, none, none, some (.int y1.1), none], [.int y1.1])) rfl) ?_
    cases h
    exact Or.inr ⟨_, ev_ret rfl rfl rfl rfl, rfl⟩
  obtain ⟨_, hE, rfl⟩ := go_end G
  exact hE
def q_X1_timesPowerOfZ_L12 (x2 : Int32) (ch0_0 : Int32) (ch0_1 : Int32) : Nat → Int32 → Int32 → Int32 → Option (Int32 × Int32 × Int32)
  | 0, _, _, _ => none
  | n + 1, l3, l4, l5 => (if (31 : Int32) ≤ l5 then (some (l3, l4, l5)) else (if (xus x2 l5) = (0 : Int32) then (some (l3, l4, l5)) else (if ((xus x2 l5) &&& (1 : Int32)) = (0 : Int32) then ((q_X1_times l4 l4 ch0_0 ch0_1).bind (fun y1 => (q_X1_timesPowerOfZ_L12 x2 ch0_0 ch0_1 n l3 y1 (l5 + (1 : Int32))))) else ((q_X1_times l3 l4 ch0_0 ch0_1).bind (fun y2 => ((q_X1_times l4 l4 ch0_0 ch0_1).bind (fun y3 => (q_X1_timesPowerOfZ_L12 x2 ch0_0 ch0_1 n y2 y3 (l5 + (1 : Int32))))))))))
def q_X1_timesPowerOfZ (x1 : Int32) (x2 : Int32) (ch0_0 : Int32) (ch0_1 : Int32) : Option Int32 := ((q_X1_timesPowerOfZ_L12 x2 ch0_0 ch0_1 10000 x1 (t_X1_timesZ (1 : Int32) ch0_0 ch0_1) (0 : Int32)).bind (fun y1 => (some y1.1)))
theorem L_X1_timesPowerOfZ_L12 {S : Nat × (Nat → Int32)} {d : Nat} {z : Bool × Nat × Nat} {h0 : Nat} {ch0_2 : Int32} {ch0_3 : Int32} {ch0_4 : Int32} {ch0_5 : Int32} {x2 : Int32} {ch0_0 : Int32} {ch0_1 : Int32} {H : List xE} (u_h0 : H[h0]? = some (.inr (1, [.int ch0_0, .int ch0_1, .int ch0_2, .int ch0_3, .int ch0_4, .int ch0_5]))) : ∀ (n : Nat) (l3 : Int32) (l4 : Int32) (l5 : Int32) x, q_X1_timesPowerOfZ_L12 x2 ch0_0 ch0_1 n l3 l4 l5 = some x → Go S (d + 2) 23 (12, [some (.ref h0), none, some (.int x2), some (.int l3), some (.int l4), some (.int l5)], []) (H, z) (fun F' M' =>  F' = (59, [none, none, none, some (.int x.1), none, none], []) ∧ M' = (H, z)) (fun _ => False) := by
  intro n
  induction n with
  | zero =>
    intro l3 l4 l5 x h
    unfold q_X1_timesPowerOfZ_L12 at h
    cases h
  | succ n ih =>
    intro l3 l4 l5 x h
    unfold q_X1_timesPowerOfZ_L12 at h
    refine go_step (fun _ => ev_run 2 (F' := (16, [some (.ref h0), none, some (.int x2), some (.int l3), some (.int l4), some (.int l5)], [.int (31 : Int32), .int l5])) rfl) ?_
    refine go_icmp rfl (fun (b16 : (31 : Int32) ≤ l5) => ?_) (fun (b16 : ¬ ((31 : Int32) ≤ l5)) => ?_)
    · have h := (if_pos b16).symm.trans h
      refine go_step (fun _ => ev_forget (L' := [none, none, none, some (.int l3), none, none]) (show xleP _ [some (.ref h0), none, some (.int x2), some (.int l3), some (.int l4), some (.int l5)] from ⟨rfl, trivial⟩) rfl) ?_
      cases h
      exact Or.inl ⟨_, _, fun r hr => hr, rfl, rfl⟩
    · have h := (if_neg b16).symm.trans h
      refine go_step (fun _ => ev_run 3 (F' := (23, [some (.ref h0), none, some (.int x2), some (.int l3), some (.int l4), some (.int l5)], [.int (xus x2 l5)])) rfl) ?_
      refine go_if rfl (fun (b23 : (xus x2 l5) = (0 : Int32)) => ?_) (fun (b23 : ¬ ((xus x2 l5) = (0 : Int32))) => ?_)
      · have h := (if_pos b23).symm.trans h
        refine go_step (fun _ => ev_forget (L' := [none, none, none, some (.int l3), none, none]) (show xleP _ [some (.ref h0), none, some (.int x2), some (.int l3), some (.int l4), some (.int l5)] from ⟨rfl, trivial⟩) rfl) ?_
        cases h
        exact Or.inl ⟨_, _, fun r hr => hr, rfl, rfl⟩
      · have h := (if_neg b23).symm.trans h
        refine go_step (fun _ => ev_run 5 (F' := (32, [some (.ref h0), none, some (.int x2), some (.int l3), some (.int l4), some (.int l5)], [.int ((xus x2 l5) &&& (1 : Int32))])) rfl) ?_
        refine go_if rfl (fun (b32 : ((xus x2 l5) &&& (1 : Int32)) = (0 : Int32)) => ?_) (fun (b32 : ¬ (((xus x2 l5) &&& (1 : Int32)) = (0 : Int32))) => ?_)
        · have h := (if_pos b32).symm.trans h
          refine go_step (fun _ => ev_run 3 (F' := (48, [some (.ref h0), none, some (.int x2), some (.int l3), some (.int l4), some (.int l5)], [.int l4, .int l4, .ref h0])) rfl) ?_
          obtain ⟨y1, hy1, h⟩ := okb h
          refine go_step (F1 := (51, [some (.ref h0), none, some (.int x2), some (.int l3), some (.int l4), some (.int l5)], [.int y1])) (M1 := (H, z)) (fun _ => ev_callV (x := (.invokevirtual 61, 3, 24, 1, 556, .null)) (as := [.int l4, .int l4]) (rest := []) rfl rfl u_h0 (C_X1_times (S := S) (d := d) (z := z) (x1 := l4) (x2 := l4) u_h0 hy1) rfl) ?_
          refine go_step (fun _ => ev_run 3 (F' := (12, [some (.ref h0), none, some (.int x2), some (.int l3), some (.int y1), some (.int (l5 + (1 : Int32)))], [])) rfl) ?_
          exact ih l3 y1 (l5 + (1 : Int32)) _ h
        · have h := (if_neg b32).symm.trans h
          refine go_step (fun _ => ev_run 3 (F' := (39, [some (.ref h0), none, some (.int x2), some (.int l3), some (.int l4), some (.int l5)], [.int l4, .int l3, .ref h0])) rfl) ?_
          obtain ⟨y2, hy2, h⟩ := okb h
          refine go_step (F1 := (42, [some (.ref h0), none, some (.int x2), some (.int l3), some (.int l4), some (.int l5)], [.int y2])) (M1 := (H, z)) (fun _ => ev_callV (x := (.invokevirtual 61, 3, 24, 1, 556, .null)) (as := [.int l3, .int l4]) (rest := []) rfl rfl u_h0 (C_X1_times (S := S) (d := d) (z := z) (x1 := l3) (x2 := l4) u_h0 hy2) rfl) ?_
          refine go_step (fun _ => ev_run 4 (F' := (48, [some (.ref h0), none, some (.int x2), some (.int y2), some (.int l4), some (.int l5)], [.int l4, .int l4, .ref h0])) rfl) ?_
          obtain ⟨y3, hy3, h⟩ := okb h
          refine go_step (F1 := (51, [some (.ref h0), none, some (.int x2), some (.int y2), some (.int l4), some (.int l5)], [.int y3])) (M1 := (H, z)) (fun _ => ev_callV (x := (.invokevirtual 61, 3, 24, 1, 556, .null)) (as := [.int l4, .int l4]) (rest := []) rfl rfl u_h0 (C_X1_times (S := S) (d := d) (z := z) (x1 := l4) (x2 := l4) u_h0 hy3) rfl) ?_
          refine go_step (fun _ => ev_run 3 (F' := (12, [some (.ref h0), none, some (.int x2), some (.int y2), some (.int y3), some (.int (l5 + (1 : Int32)))], [])) rfl) ?_
          exact ih y2 y3 (l5 + (1 : Int32)) _ h
theorem C_X1_timesPowerOfZ {S : Nat × (Nat → Int32)} {d : Nat} {H : List xE} {z : Bool × Nat × Nat} {h0 : Nat} {ch0_0 : Int32} {ch0_1 : Int32} {ch0_2 : Int32} {ch0_3 : Int32} {ch0_4 : Int32} {ch0_5 : Int32} {x1 : Int32} {x2 : Int32} (u_h0 : H[h0]? = some (.inr (1, [.int ch0_0, .int ch0_1, .int ch0_2, .int ch0_3, .int ch0_4, .int ch0_5]))) {x : Int32} (h : q_X1_timesPowerOfZ x1 x2 ch0_0 ch0_1 = some x) : Cm S (d + 2) 23 [.ref h0, .int x1, .int x2] (H, z) (.inr (some (.int x)), (H, z)) := by
  have G : Go S (d + 2) 23 (0, [some (.ref h0), some (.int x1), some (.int x2), none, none, none], []) (H, z) (fun _ _ => False) (fun r => r = (.inr (some (.int x)), (H, z))) := by
    unfold q_X1_timesPowerOfZ at h
    refine go_step (fun _ => ev_run 4 (F' := (4, [some (.ref h0), some (.int x1), some (.int x2), some (.int x1), none, none], [.int (1 : Int32), .ref h0])) rfl) ?_
    refine go_step (F1 := (7, [some (.ref h0), some (.int x1), some (.int x2), some (.int x1), none, none], [.int (t_X1_timesZ (1 : Int32) ch0_0 ch0_1)])) (M1 := (H, z)) (fun _ => ev_callV (x := (.invokevirtual 58, 3, 19, 1, 523, .null)) (as := [.int (1 : Int32)]) (rest := []) rfl rfl u_h0 (C_X1_timesZ (S := S) (d := d + 1) (z := z) (x1 := (1 : Int32)) u_h0) rfl) ?_
    refine go_step (fun _ => ev_run 3 (F' := (12, [some (.ref h0), some (.int x1), some (.int x2), some (.int x1), some (.int (t_X1_timesZ (1 : Int32) ch0_0 ch0_1)), some (.int (0 : Int32))], [])) rfl) ?_
    refine go_step (fun _ => ev_forget (L' := [some (.ref h0), none, some (.int x2), some (.int x1), some (.int (t_X1_timesZ (1 : Int32) ch0_0 ch0_1)), some (.int (0 : Int32))]) (show xleP _ [some (.ref h0), some (.int x1), some (.int x2), some (.int x1), some (.int (t_X1_timesZ (1 : Int32) ch0_0 ch0_1)), some (.int (0 : Int32))] from ⟨rfl, ⟨rfl, ⟨rfl, ⟨rfl, ⟨rfl, trivial⟩⟩⟩⟩⟩) rfl) ?_
    obtain ⟨y1, hy1, h⟩ := okb h
    obtain ⟨_, _, hr2, rfl, rfl⟩ := go_nr (L_X1_timesPowerOfZ_L12 (S := S) (d := d) (z := z) (x2 := x2) u_h0 10000 x1 (t_X1_timesZ (1 : Int32) ch0_0 ch0_1) (0 : Int32) _ hy1)
    refine go_step hr2 ?_
    refine go_step (fun _ => ev_run 1 (F' := (60, [none, none, none, some (.int y1.1), none, none], [.int y1.1])) rfl) ?_
    cases h
    exact Or.inr ⟨_, ev_ret rfl rfl rfl rfl, rfl⟩
  obtain ⟨_, hE, rfl⟩ := go_end G
  exact hE
def q_X1_sumOfBoth (x1 : Int64) (x3 : Int64) (x5 : Int32) (ch0_0 : Int32) (ch0_1 : Int32) (ch0_2 : Int32) (ch0_3 : Int32) (ch0_5 : Int32) : Option Int64 := ((q_X1_registerOfSum x1 ch0_0 ch0_3 ch0_5).bind (fun y1 => ((q_X1_timesPowerOfZ (y1 ^^^ ch0_2) ((8 : Int32) * x5) ch0_0 ch0_1).bind (fun y2 => ((q_X1_registerOfSum x3 ch0_0 ch0_3 ch0_5).bind (fun y3 => ((q_X1_sumOfRegister (y2 ^^^ y3) ch0_0 ch0_3 ch0_5).bind (fun y4 => (some y4)))))))))
theorem C_X1_sumOfBoth {S : Nat × (Nat → Int32)} {d : Nat} {H : List xE} {z : Bool × Nat × Nat} {h0 : Nat} {ch0_0 : Int32} {ch0_1 : Int32} {ch0_2 : Int32} {ch0_3 : Int32} {ch0_4 : Int32} {ch0_5 : Int32} {x1 : Int64} {x3 : Int64} {x5 : Int32} (u_h0 : H[h0]? = some (.inr (1, [.int ch0_0, .int ch0_1, .int ch0_2, .int ch0_3, .int ch0_4, .int ch0_5]))) {x : Int64} (h : q_X1_sumOfBoth x1 x3 x5 ch0_0 ch0_1 ch0_2 ch0_3 ch0_5 = some x) : Cm S (d + 3) 16 [.ref h0, .long x1, .long x3, .int x5] (H, z) (.inr (some (.long x)), (H, z)) := by
  have G : Go S (d + 3) 16 (0, [some (.ref h0), some (.long x1), none, some (.long x3), none, some (.int x5), none], []) (H, z) (fun _ _ => False) (fun r => r = (.inr (some (.long x)), (H, z))) := by
    unfold q_X1_sumOfBoth at h
    refine go_step (fun _ => ev_run 3 (F' := (3, [some (.ref h0), some (.long x1), none, some (.long x3), none, some (.int x5), none], [.long x1, .ref h0, .ref h0])) rfl) ?_
    obtain ⟨y1, hy1, h⟩ := okb h
    refine go_step (F1 := (6, [some (.ref h0), some (.long x1), none, some (.long x3), none, some (.int x5), none], [.int y1, .ref h0])) (M1 := (H, z)) (fun _ => ev_callV (x := (.invokevirtual 48, 3, 22, 1, 548, .null)) (as := [.long x1]) (rest := [.ref h0]) rfl rfl u_h0 (C_X1_registerOfSum (S := S) (d := d + 1) (z := z) (x1 := x1) u_h0 hy1) rfl) ?_
    refine go_step (fun _ => ev_run 1 (F' := (7, [some (.ref h0), some (.long x1), none, some (.long x3), none, some (.int x5), none], [.ref h0, .int y1, .ref h0])) rfl) ?_
    refine go_step (fun _ => ev_getf rfl u_h0 rfl) ?_
    refine go_step (fun _ => ev_run 4 (F' := (16, [some (.ref h0), some (.long x1), none, some (.long x3), none, some (.int x5), none], [.int ((8 : Int32) * x5), .int (y1 ^^^ ch0_2), .ref h0])) rfl) ?_
    obtain ⟨y2, hy2, h⟩ := okb h
    refine go_step (F1 := (19, [some (.ref h0), some (.long x1), none, some (.long x3), none, some (.int x5), none], [.int y2])) (M1 := (H, z)) (fun _ => ev_callV (x := (.invokevirtual 52, 3, 23, 1, 552, .null)) (as := [.int (y1 ^^^ ch0_2), .int ((8 : Int32) * x5)]) (rest := []) rfl rfl u_h0 (C_X1_timesPowerOfZ (S := S) (d := d) (z := z) (x1 := (y1 ^^^ ch0_2)) (x2 := ((8 : Int32) * x5)) u_h0 hy2) rfl) ?_
    refine go_step (fun _ => ev_run 5 (F' := (26, [some (.ref h0), some (.long x1), none, some (.long x3), none, some (.int x5), some (.int y2)], [.long x3, .ref h0, .int y2, .ref h0])) rfl) ?_
    obtain ⟨y3, hy3, h⟩ := okb h
    refine go_step (F1 := (29, [some (.ref h0), some (.long x1), none, some (.long x3), none, some (.int x5), some (.int y2)], [.int y3, .int y2, .ref h0])) (M1 := (H, z)) (fun _ => ev_callV (x := (.invokevirtual 48, 3, 22, 1, 548, .null)) (as := [.long x3]) (rest := [.int y2, .ref h0]) rfl rfl u_h0 (C_X1_registerOfSum (S := S) (d := d + 1) (z := z) (x1 := x3) u_h0 hy3) rfl) ?_
    refine go_step (fun _ => ev_run 1 (F' := (30, [some (.ref h0), some (.long x1), none, some (.long x3), none, some (.int x5), some (.int y2)], [.int (y2 ^^^ y3), .ref h0])) rfl) ?_
    obtain ⟨y4, hy4, h⟩ := okb h
    refine go_step (F1 := (33, [some (.ref h0), some (.long x1), none, some (.long x3), none, some (.int x5), some (.int y2)], [.long y4])) (M1 := (H, z)) (fun _ => ev_callV (x := (.invokevirtual 44, 3, 21, 1, 527, .null)) (as := [.int (y2 ^^^ y3)]) (rest := []) rfl rfl u_h0 (C_X1_sumOfRegister (S := S) (d := d + 1) (z := z) (x1 := (y2 ^^^ y3)) u_h0 hy4) rfl) ?_
    cases h
    exact Or.inr ⟨_, ev_ret rfl rfl rfl rfl, rfl⟩
  obtain ⟨_, hE, rfl⟩ := go_end G
  exact hE
def q_X1_sumAfterChange (x1 : Int64) (x3 : Int32) (x4 : Int32) (x5 : Int32) (ch0_0 : Int32) (ch0_1 : Int32) (ch0_3 : Int32) (ch0_4 : Int32) (ch0_5 : Int32) : Option Int64 := ((q_X1_fed (0 : Int32) (x3 ^^^ x4) ch0_0 ch0_1 ch0_4).bind (fun y1 => ((q_X1_timesPowerOfZ y1 ((8 : Int32) * x5) ch0_0 ch0_1).bind (fun y2 => ((q_X1_registerOfSum x1 ch0_0 ch0_3 ch0_5).bind (fun y3 => ((q_X1_sumOfRegister (y3 ^^^ y2) ch0_0 ch0_3 ch0_5).bind (fun y4 => (some y4)))))))))
theorem C_X1_sumAfterChange {S : Nat × (Nat → Int32)} {d : Nat} {H : List xE} {z : Bool × Nat × Nat} {h0 : Nat} {ch0_0 : Int32} {ch0_1 : Int32} {ch0_2 : Int32} {ch0_3 : Int32} {ch0_4 : Int32} {ch0_5 : Int32} {x1 : Int64} {x3 : Int32} {x4 : Int32} {x5 : Int32} (u_h0 : H[h0]? = some (.inr (1, [.int ch0_0, .int ch0_1, .int ch0_2, .int ch0_3, .int ch0_4, .int ch0_5]))) {x : Int64} (h : q_X1_sumAfterChange x1 x3 x4 x5 ch0_0 ch0_1 ch0_3 ch0_4 ch0_5 = some x) : Cm S (d + 3) 17 [.ref h0, .long x1, .int x3, .int x4, .int x5] (H, z) (.inr (some (.long x)), (H, z)) := by
  have G : Go S (d + 3) 17 (0, [some (.ref h0), some (.long x1), none, some (.int x3), some (.int x4), some (.int x5), none], []) (H, z) (fun _ _ => False) (fun r => r = (.inr (some (.long x)), (H, z))) := by
    unfold q_X1_sumAfterChange at h
    refine go_step (fun _ => ev_run 6 (F' := (7, [some (.ref h0), some (.long x1), none, some (.int x3), some (.int x4), some (.int x5), none], [.int (x3 ^^^ x4), .int (0 : Int32), .ref h0, .ref h0])) rfl) ?_
    obtain ⟨y1, hy1, h⟩ := okb h
    refine go_step (F1 := (10, [some (.ref h0), some (.long x1), none, some (.int x3), some (.int x4), some (.int x5), none], [.int y1, .ref h0])) (M1 := (H, z)) (fun _ => ev_callV (x := (.invokevirtual 40, 3, 20, 1, 516, .null)) (as := [.int (0 : Int32), .int (x3 ^^^ x4)]) (rest := [.ref h0]) rfl rfl u_h0 (C_X1_fed (S := S) (d := d + 1) (z := z) (x1 := (0 : Int32)) (x2 := (x3 ^^^ x4)) u_h0 hy1) rfl) ?_
    refine go_step (fun _ => ev_run 3 (F' := (15, [some (.ref h0), some (.long x1), none, some (.int x3), some (.int x4), some (.int x5), none], [.int ((8 : Int32) * x5), .int y1, .ref h0])) rfl) ?_
    obtain ⟨y2, hy2, h⟩ := okb h
    refine go_step (F1 := (18, [some (.ref h0), some (.long x1), none, some (.int x3), some (.int x4), some (.int x5), none], [.int y2])) (M1 := (H, z)) (fun _ => ev_callV (x := (.invokevirtual 52, 3, 23, 1, 552, .null)) (as := [.int y1, .int ((8 : Int32) * x5)]) (rest := []) rfl rfl u_h0 (C_X1_timesPowerOfZ (S := S) (d := d) (z := z) (x1 := y1) (x2 := ((8 : Int32) * x5)) u_h0 hy2) rfl) ?_
    refine go_step (fun _ => ev_run 4 (F' := (23, [some (.ref h0), some (.long x1), none, some (.int x3), some (.int x4), some (.int x5), some (.int y2)], [.long x1, .ref h0, .ref h0])) rfl) ?_
    obtain ⟨y3, hy3, h⟩ := okb h
    refine go_step (F1 := (26, [some (.ref h0), some (.long x1), none, some (.int x3), some (.int x4), some (.int x5), some (.int y2)], [.int y3, .ref h0])) (M1 := (H, z)) (fun _ => ev_callV (x := (.invokevirtual 48, 3, 22, 1, 548, .null)) (as := [.long x1]) (rest := [.ref h0]) rfl rfl u_h0 (C_X1_registerOfSum (S := S) (d := d + 1) (z := z) (x1 := x1) u_h0 hy3) rfl) ?_
    refine go_step (fun _ => ev_run 2 (F' := (29, [some (.ref h0), some (.long x1), none, some (.int x3), some (.int x4), some (.int x5), some (.int y2)], [.int (y3 ^^^ y2), .ref h0])) rfl) ?_
    obtain ⟨y4, hy4, h⟩ := okb h
    refine go_step (F1 := (32, [some (.ref h0), some (.long x1), none, some (.int x3), some (.int x4), some (.int x5), some (.int y2)], [.long y4])) (M1 := (H, z)) (fun _ => ev_callV (x := (.invokevirtual 44, 3, 21, 1, 527, .null)) (as := [.int (y3 ^^^ y2)]) (rest := []) rfl rfl u_h0 (C_X1_sumOfRegister (S := S) (d := d + 1) (z := z) (x1 := (y3 ^^^ y2)) u_h0 hy4) rfl) ?_
    cases h
    exact Or.inr ⟨_, ev_ret rfl rfl rfl rfl, rfl⟩
  obtain ⟨_, hE, rfl⟩ := go_end G
  exact hE
def q_X1_sumAfterZeros (x1 : Int64) (x3 : Int32) (ch0_0 : Int32) (ch0_1 : Int32) (ch0_3 : Int32) (ch0_5 : Int32) : Option Int64 := ((q_X1_registerOfSum x1 ch0_0 ch0_3 ch0_5).bind (fun y1 => ((q_X1_timesPowerOfZ y1 ((8 : Int32) * x3) ch0_0 ch0_1).bind (fun y2 => ((q_X1_sumOfRegister y2 ch0_0 ch0_3 ch0_5).bind (fun y3 => (some y3)))))))
theorem C_X1_sumAfterZeros {S : Nat × (Nat → Int32)} {d : Nat} {H : List xE} {z : Bool × Nat × Nat} {h0 : Nat} {ch0_0 : Int32} {ch0_1 : Int32} {ch0_2 : Int32} {ch0_3 : Int32} {ch0_4 : Int32} {ch0_5 : Int32} {x1 : Int64} {x3 : Int32} (u_h0 : H[h0]? = some (.inr (1, [.int ch0_0, .int ch0_1, .int ch0_2, .int ch0_3, .int ch0_4, .int ch0_5]))) {x : Int64} (h : q_X1_sumAfterZeros x1 x3 ch0_0 ch0_1 ch0_3 ch0_5 = some x) : Cm S (d + 3) 18 [.ref h0, .long x1, .int x3] (H, z) (.inr (some (.long x)), (H, z)) := by
  have G : Go S (d + 3) 18 (0, [some (.ref h0), some (.long x1), none, some (.int x3)], []) (H, z) (fun _ _ => False) (fun r => r = (.inr (some (.long x)), (H, z))) := by
    unfold q_X1_sumAfterZeros at h
    refine go_step (fun _ => ev_run 4 (F' := (4, [some (.ref h0), some (.long x1), none, some (.int x3)], [.long x1, .ref h0, .ref h0, .ref h0])) rfl) ?_
    obtain ⟨y1, hy1, h⟩ := okb h
    refine go_step (F1 := (7, [some (.ref h0), some (.long x1), none, some (.int x3)], [.int y1, .ref h0, .ref h0])) (M1 := (H, z)) (fun _ => ev_callV (x := (.invokevirtual 48, 3, 22, 1, 548, .null)) (as := [.long x1]) (rest := [.ref h0, .ref h0]) rfl rfl u_h0 (C_X1_registerOfSum (S := S) (d := d + 1) (z := z) (x1 := x1) u_h0 hy1) rfl) ?_
    refine go_step (fun _ => ev_run 3 (F' := (11, [some (.ref h0), some (.long x1), none, some (.int x3)], [.int ((8 : Int32) * x3), .int y1, .ref h0, .ref h0])) rfl) ?_
    obtain ⟨y2, hy2, h⟩ := okb h
    refine go_step (F1 := (14, [some (.ref h0), some (.long x1), none, some (.int x3)], [.int y2, .ref h0])) (M1 := (H, z)) (fun _ => ev_callV (x := (.invokevirtual 52, 3, 23, 1, 552, .null)) (as := [.int y1, .int ((8 : Int32) * x3)]) (rest := [.ref h0]) rfl rfl u_h0 (C_X1_timesPowerOfZ (S := S) (d := d) (z := z) (x1 := y1) (x2 := ((8 : Int32) * x3)) u_h0 hy2) rfl) ?_
    obtain ⟨y3, hy3, h⟩ := okb h
    refine go_step (F1 := (17, [some (.ref h0), some (.long x1), none, some (.int x3)], [.long y3])) (M1 := (H, z)) (fun _ => ev_callV (x := (.invokevirtual 44, 3, 21, 1, 527, .null)) (as := [.int y2]) (rest := []) rfl rfl u_h0 (C_X1_sumOfRegister (S := S) (d := d + 1) (z := z) (x1 := y2) u_h0 hy3) rfl) ?_
    cases h
    exact Or.inr ⟨_, ev_ret rfl rfl rfl rfl, rfl⟩
  obtain ⟨_, hE, rfl⟩ := go_end G
  exact hE
def q_X2_moved_L4 : Nat → Int32 → Int32 → Option (Int32 × Int32)
  | 0, _, _ => none
  | n + 1, l1, l2 => (if (8 : Int32) ≤ l2 then (some (l1, l2)) else (q_X2_moved_L4 n (if ¬ (l1 &&& (1 : Int32)) = (0 : Int32) then ((xus l1 (1 : Int32)) ^^^ (-2097792136 : Int32)) else (xus l1 (1 : Int32))) (l2 + (1 : Int32))))
def q_X2_moved (x0 : Int32) : Option Int32 := ((q_X2_moved_L4 10000 x0 (0 : Int32)).bind (fun y1 => (some y1.1)))
theorem L_X2_moved_L4 {S : Nat × (Nat → Int32)} {d : Nat} {z : Bool × Nat × Nat} {H : List xE} : ∀ (n : Nat) (l1 : Int32) (l2 : Int32) x, q_X2_moved_L4 n l1 l2 = some x → Go S d 33 (4, [none, some (.int l1), some (.int l2)], []) (H, z) (fun F' M' =>  F' = (35, [none, some (.int x.1), none], []) ∧ M' = (H, z)) (fun _ => False) := by
  intro n
  induction n with
  | zero =>
    intro l1 l2 x h
    unfold q_X2_moved_L4 at h
    cases h
  | succ n ih =>
    intro l1 l2 x h
    unfold q_X2_moved_L4 at h
    refine go_step (fun _ => ev_run 2 (F' := (7, [none, some (.int l1), some (.int l2)], [.int (8 : Int32), .int l2])) rfl) ?_
    refine go_icmp rfl (fun (b7 : (8 : Int32) ≤ l2) => ?_) (fun (b7 : ¬ ((8 : Int32) ≤ l2)) => ?_)
    · have h := (if_pos b7).symm.trans h
      refine go_step (fun _ => ev_forget (L' := [none, some (.int l1), none]) (show xleP _ [none, some (.int l1), some (.int l2)] from ⟨rfl, trivial⟩) rfl) ?_
      cases h
      exact Or.inl ⟨_, _, fun r hr => hr, rfl, rfl⟩
    · have h := (if_neg b7).symm.trans h
      refine go_step (fun _ => ev_run 3 (F' := (13, [none, some (.int l1), some (.int l2)], [.int (l1 &&& (1 : Int32))])) rfl) ?_
      refine go_step (F1 := (28, [none, none, some (.int l2)], [.int (if ¬ (l1 &&& (1 : Int32)) = (0 : Int32) then ((xus l1 (1 : Int32)) ^^^ (-2097792136 : Int32)) else (xus l1 (1 : Int32)))])) (M1 := (H, z)) (fun r K => ?_) ?_
      · skip
        refine ev_if rfl (fun (b13 : ¬ (l1 &&& (1 : Int32)) = (0 : Int32)) => ?_) (fun (b13 : ¬ (¬ (l1 &&& (1 : Int32)) = (0 : Int32))) => ?_)
        · skip
          refine ev_run 5 (F' := (28, [none, some (.int l1), some (.int l2)], [.int ((xus l1 (1 : Int32)) ^^^ (-2097792136 : Int32))])) rfl ?_
          refine ev_forget (L' := [none, none, some (.int l2)]) (show xleP _ [none, some (.int l1), some (.int l2)] from ⟨rfl, trivial⟩) rfl ?_
          exact ev_cast (show ((28, [none, none, some (.int l2)], [.int ((xus l1 (1 : Int32)) ^^^ (-2097792136 : Int32))]) : xF) = (28, [none, none, some (.int l2)], [.int (if ¬ (l1 &&& (1 : Int32)) = (0 : Int32) then ((xus l1 (1 : Int32)) ^^^ (-2097792136 : Int32)) else (xus l1 (1 : Int32)))]) by first | (simp only [if_pos b13]; done) | rfl) rfl K
        · skip
          refine ev_run 4 (F' := (28, [none, some (.int l1), some (.int l2)], [.int (xus l1 (1 : Int32))])) rfl ?_
          refine ev_forget (L' := [none, none, some (.int l2)]) (show xleP _ [none, some (.int l1), some (.int l2)] from ⟨rfl, trivial⟩) rfl ?_
          exact ev_cast (show ((28, [none, none, some (.int l2)], [.int (xus l1 (1 : Int32))]) : xF) = (28, [none, none, some (.int l2)], [.int (if ¬ (l1 &&& (1 : Int32)) = (0 : Int32) then ((xus l1 (1 : Int32)) ^^^ (-2097792136 : Int32)) else (xus l1 (1 : Int32)))]) by first | (simp only [if_neg b13]; done) | rfl) rfl K
      refine go_step (fun _ => ev_run 3 (F' := (4, [none, some (.int (if ¬ (l1 &&& (1 : Int32)) = (0 : Int32) then ((xus l1 (1 : Int32)) ^^^ (-2097792136 : Int32)) else (xus l1 (1 : Int32)))), some (.int (l2 + (1 : Int32)))], [])) rfl) ?_
      exact ih (if ¬ (l1 &&& (1 : Int32)) = (0 : Int32) then ((xus l1 (1 : Int32)) ^^^ (-2097792136 : Int32)) else (xus l1 (1 : Int32))) (l2 + (1 : Int32)) _ h
theorem C_X2_moved {S : Nat × (Nat → Int32)} {d : Nat} {H : List xE} {z : Bool × Nat × Nat} {x0 : Int32} {x : Int32} (h : q_X2_moved x0 = some x) : Cm S d 33 [.int x0] (H, z) (.inr (some (.int x)), (H, z)) := by
  have G : Go S d 33 (0, [some (.int x0), none, none], []) (H, z) (fun _ _ => False) (fun r => r = (.inr (some (.int x)), (H, z))) := by
    unfold q_X2_moved at h
    refine go_step (fun _ => ev_run 4 (F' := (4, [some (.int x0), some (.int x0), some (.int (0 : Int32))], [])) rfl) ?_
    refine go_step (fun _ => ev_forget (L' := [none, some (.int x0), some (.int (0 : Int32))]) (show xleP _ [some (.int x0), some (.int x0), some (.int (0 : Int32))] from ⟨rfl, ⟨rfl, trivial⟩⟩) rfl) ?_
    obtain ⟨y1, hy1, h⟩ := okb h
    obtain ⟨_, _, hr2, rfl, rfl⟩ := go_nr (L_X2_moved_L4 (S := S) (d := d) (z := z) 10000 x0 (0 : Int32) _ hy1)
    refine go_step hr2 ?_
    refine go_step (fun _ => ev_run 1 (F' := (36, [none, some (.int y1.1), none], [.int y1.1])) rfl) ?_
    cases h
    exact Or.inr ⟨_, ev_ret rfl rfl rfl rfl, rfl⟩
  obtain ⟨_, hE, rfl⟩ := go_end G
  exact hE
def q_X2_registerBehind_L5 (x2 : Int32) (a2 : Nat → Int32) : Nat → Int32 → Int32 → Option (Int32 × Int32)
  | 0, _, _ => none
  | n + 1, l3, l4 => (if x2 ≤ l4 then (some (l3, l4)) else ((q_X2_moved (l3 ^^^ (t_X5_at l4 64 a2))).bind (fun y1 => (q_X2_registerBehind_L5 x2 a2 n y1 (l4 + (1 : Int32))))))
def q_X2_registerBehind (x1 : Int32) (x2 : Int32) (a2 : Nat → Int32) : Option Int32 := ((q_X2_registerBehind_L5 x2 a2 10000 (-1 : Int32) x1).bind (fun y1 => (some y1.1)))
theorem L_X2_registerBehind_L5 {S : Nat × (Nat → Int32)} {d : Nat} {z : Bool × Nat × Nat} {c1_1 : Int32} {x2 : Int32} {a2 : Nat → Int32} {H : List xE} (u_1 : H[1]? = some (.inr (4, [.ref 2, .int c1_1]))) (u_2 : H[2]? = some (.inl (0, 64, .inl a2))) : ∀ (n : Nat) (l3 : Int32) (l4 : Int32) x, q_X2_registerBehind_L5 x2 a2 n l3 l4 = some x → Go S (d + 1) 31 (5, [some (.ref 1), none, some (.int x2), some (.int l3), some (.int l4)], []) (H, z) (fun F' M' =>  F' = (29, [none, none, none, some (.int x.1), none], []) ∧ M' = (H, z)) (fun _ => False) := by
  intro n
  induction n with
  | zero =>
    intro l3 l4 x h
    unfold q_X2_registerBehind_L5 at h
    cases h
  | succ n ih =>
    intro l3 l4 x h
    unfold q_X2_registerBehind_L5 at h
    refine go_step (fun _ => ev_run 2 (F' := (8, [some (.ref 1), none, some (.int x2), some (.int l3), some (.int l4)], [.int x2, .int l4])) rfl) ?_
    refine go_icmp rfl (fun (b8 : x2 ≤ l4) => ?_) (fun (b8 : ¬ (x2 ≤ l4)) => ?_)
    · have h := (if_pos b8).symm.trans h
      refine go_step (fun _ => ev_forget (L' := [none, none, none, some (.int l3), none]) (show xleP _ [some (.ref 1), none, some (.int x2), some (.int l3), some (.int l4)] from ⟨rfl, trivial⟩) rfl) ?_
      cases h
      exact Or.inl ⟨_, _, fun r hr => hr, rfl, rfl⟩
    · have h := (if_neg b8).symm.trans h
      refine go_step (fun _ => ev_run 3 (F' := (15, [some (.ref 1), none, some (.int x2), some (.int l3), some (.int l4)], [.int l4, .ref 1, .int l3])) rfl) ?_
      refine go_step (F1 := (18, [some (.ref 1), none, some (.int x2), some (.int l3), some (.int l4)], [.int (t_X5_at l4 64 a2), .int l3])) (M1 := (H, z)) (fun _ => ev_callV (x := (.invokevirtual 33, 3, 55, 4, 479, .null)) (as := [.int l4]) (rest := [.int l3]) rfl rfl u_1 (C_X5_at (S := S) (d := d) (z := z) (x1 := l4) u_1 u_2 (by decide)) rfl) ?_
      refine go_step (fun _ => ev_run 1 (F' := (19, [some (.ref 1), none, some (.int x2), some (.int l3), some (.int l4)], [.int (l3 ^^^ (t_X5_at l4 64 a2))])) rfl) ?_
      obtain ⟨y1, hy1, h⟩ := okb h
      refine go_step (F1 := (22, [some (.ref 1), none, some (.int x2), some (.int l3), some (.int l4)], [.int y1])) (M1 := (H, z)) (fun _ => ev_call (x := (.invokestatic 39, 3, 33, 0, 480, .null)) (as := [.int (l3 ^^^ (t_X5_at l4 64 a2))]) (rest := []) rfl rfl (C_X2_moved (S := S) (d := d) (z := z) (x0 := (l3 ^^^ (t_X5_at l4 64 a2))) hy1) rfl) ?_
      refine go_step (fun _ => ev_run 3 (F' := (5, [some (.ref 1), none, some (.int x2), some (.int y1), some (.int (l4 + (1 : Int32)))], [])) rfl) ?_
      exact ih y1 (l4 + (1 : Int32)) _ h
theorem C_X2_registerBehind {S : Nat × (Nat → Int32)} {d : Nat} {H : List xE} {z : Bool × Nat × Nat} {c1_1 : Int32} {a2 : Nat → Int32} {x1 : Int32} {x2 : Int32} (u_1 : H[1]? = some (.inr (4, [.ref 2, .int c1_1]))) (u_2 : H[2]? = some (.inl (0, 64, .inl a2))) {x : Int32} (h : q_X2_registerBehind x1 x2 a2 = some x) : Cm S (d + 1) 31 [.ref 1, .int x1, .int x2] (H, z) (.inr (some (.int x)), (H, z)) := by
  have G : Go S (d + 1) 31 (0, [some (.ref 1), some (.int x1), some (.int x2), none, none], []) (H, z) (fun _ _ => False) (fun r => r = (.inr (some (.int x)), (H, z))) := by
    unfold q_X2_registerBehind at h
    refine go_step (fun _ => ev_run 4 (F' := (5, [some (.ref 1), some (.int x1), some (.int x2), some (.int (-1 : Int32)), some (.int x1)], [])) rfl) ?_
    refine go_step (fun _ => ev_forget (L' := [some (.ref 1), none, some (.int x2), some (.int (-1 : Int32)), some (.int x1)]) (show xleP _ [some (.ref 1), some (.int x1), some (.int x2), some (.int (-1 : Int32)), some (.int x1)] from ⟨rfl, ⟨rfl, ⟨rfl, ⟨rfl, trivial⟩⟩⟩⟩) rfl) ?_
    obtain ⟨y1, hy1, h⟩ := okb h
    obtain ⟨_, _, hr2, rfl, rfl⟩ := go_nr (L_X2_registerBehind_L5 (S := S) (d := d) (z := z) (x2 := x2) u_1 u_2 10000 (-1 : Int32) x1 _ hy1)
    refine go_step hr2 ?_
    refine go_step (fun _ => ev_run 1 (F' := (30, [none, none, none, some (.int y1.1), none], [.int y1.1])) rfl) ?_
    cases h
    exact Or.inr ⟨_, ev_ret rfl rfl rfl rfl, rfl⟩
  obtain ⟨_, hE, rfl⟩ := go_end G
  exact hE
def t_X2_sumOfRegister (x0 : Int32) : Int64 := (((x0 ^^^ (-1 : Int32)).toInt64) &&& (4294967295 : Int64))
theorem C_X2_sumOfRegister {S : Nat × (Nat → Int32)} {d : Nat} {H : List xE} {z : Bool × Nat × Nat} {x0 : Int32} : Cm S d 30 [.int x0] (H, z) (.inr (some (.long (t_X2_sumOfRegister x0))), (H, z)) := by
  have G : ∀ x, t_X2_sumOfRegister x0 = x → Go S d 30 (0, [some (.int x0)], []) (H, z) (fun _ _ => False) (fun r => r = (.inr (some (.long x)), (H, z))) := by
    intro x h
    unfold t_X2_sumOfRegister at h
    refine go_step (fun _ => ev_run 6 (F' := (8, [some (.int x0)], [.long (((x0 ^^^ (-1 : Int32)).toInt64) &&& (4294967295 : Int64))])) rfl) ?_
    cases h
    exact Or.inr ⟨_, ev_ret rfl rfl rfl rfl, rfl⟩
  obtain ⟨_, hE, rfl⟩ := go_end (G _ rfl)
  exact hE
def q_X2_sumOf (x1 : Int32) (x2 : Int32) (a2 : Nat → Int32) : Option Int64 := ((q_X2_registerBehind x1 x2 a2).bind (fun y1 => (some (t_X2_sumOfRegister y1))))
theorem C_X2_sumOf {S : Nat × (Nat → Int32)} {d : Nat} {H : List xE} {z : Bool × Nat × Nat} {a2 : Nat → Int32} {c1_1 : Int32} {x1 : Int32} {x2 : Int32} (u_2 : H[2]? = some (.inl (0, 64, .inl a2))) (u_1 : H[1]? = some (.inr (4, [.ref 2, .int c1_1]))) {x : Int64} (h : q_X2_sumOf x1 x2 a2 = some x) : Cm S (d + 2) 26 [.ref 1, .int x1, .int x2] (H, z) (.inr (some (.long x)), (H, z)) := by
  have G : Go S (d + 2) 26 (0, [some (.ref 1), some (.int x1), some (.int x2)], []) (H, z) (fun _ _ => False) (fun r => r = (.inr (some (.long x)), (H, z))) := by
    unfold q_X2_sumOf at h
    refine go_step (fun _ => ev_run 3 (F' := (3, [some (.ref 1), some (.int x1), some (.int x2)], [.int x2, .int x1, .ref 1])) rfl) ?_
    obtain ⟨y1, hy1, h⟩ := okb h
    refine go_step (F1 := (6, [some (.ref 1), some (.int x1), some (.int x2)], [.int y1])) (M1 := (H, z)) (fun _ => ev_call (x := (.invokestatic 9, 3, 31, 0, 476, .null)) (as := [.ref 1, .int x1, .int x2]) (rest := []) rfl rfl (C_X2_registerBehind (S := S) (d := d) (z := z) (x1 := x1) (x2 := x2) u_1 u_2 hy1) rfl) ?_
    refine go_step (F1 := (9, [some (.ref 1), some (.int x1), some (.int x2)], [.long (t_X2_sumOfRegister y1)])) (M1 := (H, z)) (fun _ => ev_call (x := (.invokestatic 15, 3, 30, 0, 484, .null)) (as := [.int y1]) (rest := []) rfl rfl (C_X2_sumOfRegister (S := S) (d := d + 1) (z := z) (x0 := y1)) rfl) ?_
    cases h
    exact Or.inr ⟨_, ev_ret rfl rfl rfl rfl, rfl⟩
  obtain ⟨_, hE, rfl⟩ := go_end G
  exact hE
def q_X2_fedWord_L5 (x1 : Int32) (x2 : Int32) : Nat → Int32 → Int32 → Option (Int32 × Int32)
  | 0, _, _ => none
  | n + 1, l3, l4 => (if x2 ≤ l4 then (some (l3, l4)) else ((q_X2_moved (l3 ^^^ (t_X11_byteOfWord x1 l4))).bind (fun y1 => (q_X2_fedWord_L5 x1 x2 n y1 (l4 + (1 : Int32))))))
def q_X2_fedWord (x0 : Int32) (x1 : Int32) (x2 : Int32) : Option Int32 := ((q_X2_fedWord_L5 x1 x2 10000 x0 (0 : Int32)).bind (fun y1 => (some y1.1)))
theorem L_X2_fedWord_L5 {S : Nat × (Nat → Int32)} {d : Nat} {z : Bool × Nat × Nat} {x1 : Int32} {x2 : Int32} {H : List xE} : ∀ (n : Nat) (l3 : Int32) (l4 : Int32) x, q_X2_fedWord_L5 x1 x2 n l3 l4 = some x → Go S (d + 1) 32 (5, [none, some (.int x1), some (.int x2), some (.int l3), some (.int l4)], []) (H, z) (fun F' M' =>  F' = (29, [none, none, none, some (.int x.1), none], []) ∧ M' = (H, z)) (fun _ => False) := by
  intro n
  induction n with
  | zero =>
    intro l3 l4 x h
    unfold q_X2_fedWord_L5 at h
    cases h
  | succ n ih =>
    intro l3 l4 x h
    unfold q_X2_fedWord_L5 at h
    refine go_step (fun _ => ev_run 2 (F' := (8, [none, some (.int x1), some (.int x2), some (.int l3), some (.int l4)], [.int x2, .int l4])) rfl) ?_
    refine go_icmp rfl (fun (b8 : x2 ≤ l4) => ?_) (fun (b8 : ¬ (x2 ≤ l4)) => ?_)
    · have h := (if_pos b8).symm.trans h
      refine go_step (fun _ => ev_forget (L' := [none, none, none, some (.int l3), none]) (show xleP _ [none, some (.int x1), some (.int x2), some (.int l3), some (.int l4)] from ⟨rfl, trivial⟩) rfl) ?_
      cases h
      exact Or.inl ⟨_, _, fun r hr => hr, rfl, rfl⟩
    · have h := (if_neg b8).symm.trans h
      refine go_step (fun _ => ev_run 3 (F' := (15, [none, some (.int x1), some (.int x2), some (.int l3), some (.int l4)], [.int l4, .int x1, .int l3])) rfl) ?_
      refine go_step (F1 := (18, [none, some (.int x1), some (.int x2), some (.int l3), some (.int l4)], [.int (t_X11_byteOfWord x1 l4), .int l3])) (M1 := (H, z)) (fun _ => ev_call (x := (.invokestatic 42, 3, 156, 10, 1166, .int 1)) (as := [.int x1, .int l4]) (rest := [.int l3]) rfl rfl (C_X11_byteOfWord (S := S) (d := d) (z := z) (x0 := x1) (x1 := l4)) rfl) ?_
      refine go_step (fun _ => ev_run 1 (F' := (19, [none, some (.int x1), some (.int x2), some (.int l3), some (.int l4)], [.int (l3 ^^^ (t_X11_byteOfWord x1 l4))])) rfl) ?_
      obtain ⟨y1, hy1, h⟩ := okb h
      refine go_step (F1 := (22, [none, some (.int x1), some (.int x2), some (.int l3), some (.int l4)], [.int y1])) (M1 := (H, z)) (fun _ => ev_call (x := (.invokestatic 39, 3, 33, 0, 480, .null)) (as := [.int (l3 ^^^ (t_X11_byteOfWord x1 l4))]) (rest := []) rfl rfl (C_X2_moved (S := S) (d := d) (z := z) (x0 := (l3 ^^^ (t_X11_byteOfWord x1 l4))) hy1) rfl) ?_
      refine go_step (fun _ => ev_run 3 (F' := (5, [none, some (.int x1), some (.int x2), some (.int y1), some (.int (l4 + (1 : Int32)))], [])) rfl) ?_
      exact ih y1 (l4 + (1 : Int32)) _ h
theorem C_X2_fedWord {S : Nat × (Nat → Int32)} {d : Nat} {H : List xE} {z : Bool × Nat × Nat} {x0 : Int32} {x1 : Int32} {x2 : Int32} {x : Int32} (h : q_X2_fedWord x0 x1 x2 = some x) : Cm S (d + 1) 32 [.int x0, .int x1, .int x2] (H, z) (.inr (some (.int x)), (H, z)) := by
  have G : Go S (d + 1) 32 (0, [some (.int x0), some (.int x1), some (.int x2), none, none], []) (H, z) (fun _ _ => False) (fun r => r = (.inr (some (.int x)), (H, z))) := by
    unfold q_X2_fedWord at h
    refine go_step (fun _ => ev_run 4 (F' := (5, [some (.int x0), some (.int x1), some (.int x2), some (.int x0), some (.int (0 : Int32))], [])) rfl) ?_
    refine go_step (fun _ => ev_forget (L' := [none, some (.int x1), some (.int x2), some (.int x0), some (.int (0 : Int32))]) (show xleP _ [some (.int x0), some (.int x1), some (.int x2), some (.int x0), some (.int (0 : Int32))] from ⟨rfl, ⟨rfl, ⟨rfl, ⟨rfl, trivial⟩⟩⟩⟩) rfl) ?_
    obtain ⟨y1, hy1, h⟩ := okb h
    obtain ⟨_, _, hr2, rfl, rfl⟩ := go_nr (L_X2_fedWord_L5 (S := S) (d := d) (z := z) (x1 := x1) (x2 := x2) 10000 x0 (0 : Int32) _ hy1)
    refine go_step hr2 ?_
    refine go_step (fun _ => ev_run 1 (F' := (30, [none, none, none, some (.int y1.1), none], [.int y1.1])) rfl) ?_
    cases h
    exact Or.inr ⟨_, ev_ret rfl rfl rfl rfl, rfl⟩
  obtain ⟨_, hE, rfl⟩ := go_end G
  exact hE
def q_X2_sumOfWord (x0 : Int32) (x1 : Int32) : Option Int64 := ((q_X2_fedWord (-1 : Int32) x0 x1).bind (fun y1 => (some (t_X2_sumOfRegister y1))))
theorem C_X2_sumOfWord {S : Nat × (Nat → Int32)} {d : Nat} {H : List xE} {z : Bool × Nat × Nat} {x0 : Int32} {x1 : Int32} {x : Int64} (h : q_X2_sumOfWord x0 x1 = some x) : Cm S (d + 2) 27 [.int x0, .int x1] (H, z) (.inr (some (.long x)), (H, z)) := by
  have G : Go S (d + 2) 27 (0, [some (.int x0), some (.int x1)], []) (H, z) (fun _ _ => False) (fun r => r = (.inr (some (.long x)), (H, z))) := by
    unfold q_X2_sumOfWord at h
    refine go_step (fun _ => ev_run 3 (F' := (3, [some (.int x0), some (.int x1)], [.int x1, .int x0, .int (-1 : Int32)])) rfl) ?_
    obtain ⟨y1, hy1, h⟩ := okb h
    refine go_step (F1 := (6, [some (.int x0), some (.int x1)], [.int y1])) (M1 := (H, z)) (fun _ => ev_call (x := (.invokestatic 19, 3, 32, 0, 1163, .null)) (as := [.int (-1 : Int32), .int x0, .int x1]) (rest := []) rfl rfl (C_X2_fedWord (S := S) (d := d) (z := z) (x0 := (-1 : Int32)) (x1 := x0) (x2 := x1) hy1) rfl) ?_
    refine go_step (F1 := (9, [some (.int x0), some (.int x1)], [.long (t_X2_sumOfRegister y1)])) (M1 := (H, z)) (fun _ => ev_call (x := (.invokestatic 15, 3, 30, 0, 484, .null)) (as := [.int y1]) (rest := []) rfl rfl (C_X2_sumOfRegister (S := S) (d := d + 1) (z := z) (x0 := y1)) rfl) ?_
    cases h
    exact Or.inr ⟨_, ev_ret rfl rfl rfl rfl, rfl⟩
  obtain ⟨_, hE, rfl⟩ := go_end G
  exact hE
def q_X2_sumOfPair (x0 : Int64) (x2 : Int64) : Option Int64 := ((q_X2_fedWord (-1 : Int32) (x0.toInt32) (4 : Int32)).bind (fun y1 => ((q_X2_fedWord y1 (x2.toInt32) (4 : Int32)).bind (fun y2 => (some (t_X2_sumOfRegister y2))))))
theorem C_X2_sumOfPair {S : Nat × (Nat → Int32)} {d : Nat} {H : List xE} {z : Bool × Nat × Nat} {x0 : Int64} {x2 : Int64} {x : Int64} (h : q_X2_sumOfPair x0 x2 = some x) : Cm S (d + 2) 28 [.long x0, .long x2] (H, z) (.inr (some (.long x)), (H, z)) := by
  have G : Go S (d + 2) 28 (0, [some (.long x0), none, some (.long x2), none], []) (H, z) (fun _ _ => False) (fun r => r = (.inr (some (.long x)), (H, z))) := by
    unfold q_X2_sumOfPair at h
    refine go_step (fun _ => ev_run 4 (F' := (4, [some (.long x0), none, some (.long x2), none], [.int (4 : Int32), .int (x0.toInt32), .int (-1 : Int32)])) rfl) ?_
    obtain ⟨y1, hy1, h⟩ := okb h
    refine go_step (F1 := (7, [some (.long x0), none, some (.long x2), none], [.int y1])) (M1 := (H, z)) (fun _ => ev_call (x := (.invokestatic 19, 3, 32, 0, 1163, .null)) (as := [.int (-1 : Int32), .int (x0.toInt32), .int (4 : Int32)]) (rest := []) rfl rfl (C_X2_fedWord (S := S) (d := d) (z := z) (x0 := (-1 : Int32)) (x1 := (x0.toInt32)) (x2 := (4 : Int32)) hy1) rfl) ?_
    refine go_step (fun _ => ev_run 3 (F' := (10, [some (.long x0), none, some (.long x2), none], [.int (4 : Int32), .int (x2.toInt32), .int y1])) rfl) ?_
    obtain ⟨y2, hy2, h⟩ := okb h
    refine go_step (F1 := (13, [some (.long x0), none, some (.long x2), none], [.int y2])) (M1 := (H, z)) (fun _ => ev_call (x := (.invokestatic 19, 3, 32, 0, 1163, .null)) (as := [.int y1, .int (x2.toInt32), .int (4 : Int32)]) (rest := []) rfl rfl (C_X2_fedWord (S := S) (d := d) (z := z) (x0 := y1) (x1 := (x2.toInt32)) (x2 := (4 : Int32)) hy2) rfl) ?_
    refine go_step (F1 := (16, [some (.long x0), none, some (.long x2), none], [.long (t_X2_sumOfRegister y2)])) (M1 := (H, z)) (fun _ => ev_call (x := (.invokestatic 15, 3, 30, 0, 484, .null)) (as := [.int y2]) (rest := []) rfl rfl (C_X2_sumOfRegister (S := S) (d := d + 1) (z := z) (x0 := y2)) rfl) ?_
    cases h
    exact Or.inr ⟨_, ev_ret rfl rfl rfl rfl, rfl⟩
  obtain ⟨_, hE, rfl⟩ := go_end G
  exact hE
def q_X2_movedBack_L4 : Nat → Int32 → Int32 → Option (Int32 × Int32)
  | 0, _, _ => none
  | n + 1, l1, l2 => (if (8 : Int32) ≤ l2 then (some (l1, l2)) else (q_X2_movedBack_L4 n (if l1 < (0 : Int32) then (((l1 ^^^ (-2097792136 : Int32)) <<< ((1 : Int32) &&& (31 : Int32))) ||| (1 : Int32)) else (l1 <<< ((1 : Int32) &&& (31 : Int32)))) (l2 + (1 : Int32))))
def q_X2_movedBack (x0 : Int32) : Option Int32 := ((q_X2_movedBack_L4 10000 x0 (0 : Int32)).bind (fun y1 => (some y1.1)))
theorem L_X2_movedBack_L4 {S : Nat × (Nat → Int32)} {d : Nat} {z : Bool × Nat × Nat} {H : List xE} : ∀ (n : Nat) (l1 : Int32) (l2 : Int32) x, q_X2_movedBack_L4 n l1 l2 = some x → Go S d 34 (4, [none, some (.int l1), some (.int l2)], []) (H, z) (fun F' M' =>  F' = (35, [none, some (.int x.1), none], []) ∧ M' = (H, z)) (fun _ => False) := by
  intro n
  induction n with
  | zero =>
    intro l1 l2 x h
    unfold q_X2_movedBack_L4 at h
    cases h
  | succ n ih =>
    intro l1 l2 x h
    unfold q_X2_movedBack_L4 at h
    refine go_step (fun _ => ev_run 2 (F' := (7, [none, some (.int l1), some (.int l2)], [.int (8 : Int32), .int l2])) rfl) ?_
    refine go_icmp rfl (fun (b7 : (8 : Int32) ≤ l2) => ?_) (fun (b7 : ¬ ((8 : Int32) ≤ l2)) => ?_)
    · have h := (if_pos b7).symm.trans h
      refine go_step (fun _ => ev_forget (L' := [none, some (.int l1), none]) (show xleP _ [none, some (.int l1), some (.int l2)] from ⟨rfl, trivial⟩) rfl) ?_
      cases h
      exact Or.inl ⟨_, _, fun r hr => hr, rfl, rfl⟩
    · have h := (if_neg b7).symm.trans h
      refine go_step (fun _ => ev_run 1 (F' := (11, [none, some (.int l1), some (.int l2)], [.int l1])) rfl) ?_
      refine go_step (F1 := (28, [none, none, some (.int l2)], [.int (if l1 < (0 : Int32) then (((l1 ^^^ (-2097792136 : Int32)) <<< ((1 : Int32) &&& (31 : Int32))) ||| (1 : Int32)) else (l1 <<< ((1 : Int32) &&& (31 : Int32))))])) (M1 := (H, z)) (fun r K => ?_) ?_
      · skip
        refine ev_if rfl (fun (b11 : l1 < (0 : Int32)) => ?_) (fun (b11 : ¬ (l1 < (0 : Int32))) => ?_)
        · skip
          refine ev_run 7 (F' := (28, [none, some (.int l1), some (.int l2)], [.int (((l1 ^^^ (-2097792136 : Int32)) <<< ((1 : Int32) &&& (31 : Int32))) ||| (1 : Int32))])) rfl ?_
          refine ev_forget (L' := [none, none, some (.int l2)]) (show xleP _ [none, some (.int l1), some (.int l2)] from ⟨rfl, trivial⟩) rfl ?_
          exact ev_cast (show ((28, [none, none, some (.int l2)], [.int (((l1 ^^^ (-2097792136 : Int32)) <<< ((1 : Int32) &&& (31 : Int32))) ||| (1 : Int32))]) : xF) = (28, [none, none, some (.int l2)], [.int (if l1 < (0 : Int32) then (((l1 ^^^ (-2097792136 : Int32)) <<< ((1 : Int32) &&& (31 : Int32))) ||| (1 : Int32)) else (l1 <<< ((1 : Int32) &&& (31 : Int32))))]) by first | (simp only [if_pos b11]; done) | rfl) rfl K
        · skip
          refine ev_run 4 (F' := (28, [none, some (.int l1), some (.int l2)], [.int (l1 <<< ((1 : Int32) &&& (31 : Int32)))])) rfl ?_
          refine ev_forget (L' := [none, none, some (.int l2)]) (show xleP _ [none, some (.int l1), some (.int l2)] from ⟨rfl, trivial⟩) rfl ?_
          exact ev_cast (show ((28, [none, none, some (.int l2)], [.int (l1 <<< ((1 : Int32) &&& (31 : Int32)))]) : xF) = (28, [none, none, some (.int l2)], [.int (if l1 < (0 : Int32) then (((l1 ^^^ (-2097792136 : Int32)) <<< ((1 : Int32) &&& (31 : Int32))) ||| (1 : Int32)) else (l1 <<< ((1 : Int32) &&& (31 : Int32))))]) by first | (simp only [if_neg b11]; done) | rfl) rfl K
      refine go_step (fun _ => ev_run 3 (F' := (4, [none, some (.int (if l1 < (0 : Int32) then (((l1 ^^^ (-2097792136 : Int32)) <<< ((1 : Int32) &&& (31 : Int32))) ||| (1 : Int32)) else (l1 <<< ((1 : Int32) &&& (31 : Int32))))), some (.int (l2 + (1 : Int32)))], [])) rfl) ?_
      exact ih (if l1 < (0 : Int32) then (((l1 ^^^ (-2097792136 : Int32)) <<< ((1 : Int32) &&& (31 : Int32))) ||| (1 : Int32)) else (l1 <<< ((1 : Int32) &&& (31 : Int32)))) (l2 + (1 : Int32)) _ h
theorem C_X2_movedBack {S : Nat × (Nat → Int32)} {d : Nat} {H : List xE} {z : Bool × Nat × Nat} {x0 : Int32} {x : Int32} (h : q_X2_movedBack x0 = some x) : Cm S d 34 [.int x0] (H, z) (.inr (some (.int x)), (H, z)) := by
  have G : Go S d 34 (0, [some (.int x0), none, none], []) (H, z) (fun _ _ => False) (fun r => r = (.inr (some (.int x)), (H, z))) := by
    unfold q_X2_movedBack at h
    refine go_step (fun _ => ev_run 4 (F' := (4, [some (.int x0), some (.int x0), some (.int (0 : Int32))], [])) rfl) ?_
    refine go_step (fun _ => ev_forget (L' := [none, some (.int x0), some (.int (0 : Int32))]) (show xleP _ [some (.int x0), some (.int x0), some (.int (0 : Int32))] from ⟨rfl, ⟨rfl, trivial⟩⟩) rfl) ?_
    obtain ⟨y1, hy1, h⟩ := okb h
    obtain ⟨_, _, hr2, rfl, rfl⟩ := go_nr (L_X2_movedBack_L4 (S := S) (d := d) (z := z) 10000 x0 (0 : Int32) _ hy1)
    refine go_step hr2 ?_
    refine go_step (fun _ => ev_run 1 (F' := (36, [none, some (.int y1.1), none], [.int y1.1])) rfl) ?_
    cases h
    exact Or.inr ⟨_, ev_ret rfl rfl rfl rfl, rfl⟩
  obtain ⟨_, hE, rfl⟩ := go_end G
  exact hE
def q_X2_forgedWord_L22 (x1 : Int32) (a2 : Nat → Int32) : Nat → Int32 → Int32 → Option (Int32 × Int32)
  | 0, _, _ => none
  | n + 1, l5, l6 => (if l6 ≤ (x1 + (3 : Int32)) then (some (l5, l6)) else ((q_X2_movedBack l5).bind (fun y1 => (q_X2_forgedWord_L22 x1 a2 n (y1 ^^^ (t_X5_at l6 64 a2)) (l6 + (-1 : Int32))))))
def q_X2_forgedWord_L53 : Nat → Int32 → Int32 → Option (Int32 × Int32)
  | 0, _, _ => none
  | n + 1, l5, l6 => (if (4 : Int32) ≤ l6 then (some (l5, l6)) else ((q_X2_movedBack l5).bind (fun y1 => (q_X2_forgedWord_L53 n y1 (l6 + (1 : Int32))))))
def q_X2_forgedWord (x1 : Int32) (x2 : Int64) (a2 : Nat → Int32) (c1_1 : Int32) : Option Int32 := ((q_X2_registerBehind (0 : Int32) x1 a2).bind (fun y1 => ((q_X2_forgedWord_L22 x1 a2 10000 ((x2.toInt32) ^^^ (-1 : Int32)) ((t_X5_size c1_1) - (1 : Int32))).bind (fun y2 => ((q_X2_forgedWord_L53 10000 y2.1 (0 : Int32)).bind (fun y4 => (some (((((y1 ^^^ y4.1) <<< ((24 : Int32) &&& (31 : Int32))) ||| (((y1 ^^^ y4.1) &&& (65280 : Int32)) <<< ((8 : Int32) &&& (31 : Int32)))) ||| ((xus (y1 ^^^ y4.1) (8 : Int32)) &&& (65280 : Int32))) ||| (xus (y1 ^^^ y4.1) (24 : Int32))))))))))
theorem L_X2_forgedWord_L22 {S : Nat × (Nat → Int32)} {d : Nat} {z : Bool × Nat × Nat} {c1_1 : Int32} {x1 : Int32} {a2 : Nat → Int32} {x4 : Int32} {H : List xE} (u_2 : H[2]? = some (.inl (0, 64, .inl a2))) (u_1 : H[1]? = some (.inr (4, [.ref 2, .int c1_1]))) : ∀ (n : Nat) (l5 : Int32) (l6 : Int32) x, q_X2_forgedWord_L22 x1 a2 n l5 l6 = some x → Go S (d + 2) 29 (22, [some (.ref 1), some (.int x1), none, none, some (.int x4), some (.int l5), some (.int l6)], []) (H, z) (fun F' M' =>  F' = (50, [none, none, none, none, some (.int x4), some (.int x.1), none], []) ∧ M' = (H, z)) (fun _ => False) := by
  intro n
  induction n with
  | zero =>
    intro l5 l6 x h
    unfold q_X2_forgedWord_L22 at h
    cases h
  | succ n ih =>
    intro l5 l6 x h
    unfold q_X2_forgedWord_L22 at h
    refine go_step (fun _ => ev_run 4 (F' := (27, [some (.ref 1), some (.int x1), none, none, some (.int x4), some (.int l5), some (.int l6)], [.int (x1 + (3 : Int32)), .int l6])) rfl) ?_
    refine go_icmp rfl (fun (b27 : l6 ≤ (x1 + (3 : Int32))) => ?_) (fun (b27 : ¬ (l6 ≤ (x1 + (3 : Int32)))) => ?_)
    · have h := (if_pos b27).symm.trans h
      refine go_step (fun _ => ev_forget (L' := [none, none, none, none, some (.int x4), some (.int l5), none]) (show xleP _ [some (.ref 1), some (.int x1), none, none, some (.int x4), some (.int l5), some (.int l6)] from ⟨rfl, ⟨rfl, trivial⟩⟩) rfl) ?_
      cases h
      exact Or.inl ⟨_, _, fun r hr => hr, rfl, rfl⟩
    · have h := (if_neg b27).symm.trans h
      refine go_step (fun _ => ev_run 1 (F' := (32, [some (.ref 1), some (.int x1), none, none, some (.int x4), some (.int l5), some (.int l6)], [.int l5])) rfl) ?_
      obtain ⟨y1, hy1, h⟩ := okb h
      refine go_step (F1 := (35, [some (.ref 1), some (.int x1), none, none, some (.int x4), some (.int l5), some (.int l6)], [.int y1])) (M1 := (H, z)) (fun _ => ev_call (x := (.invokestatic 29, 3, 34, 0, 568, .null)) (as := [.int l5]) (rest := []) rfl rfl (C_X2_movedBack (S := S) (d := d + 1) (z := z) (x0 := l5) hy1) rfl) ?_
      refine go_step (fun _ => ev_run 2 (F' := (38, [some (.ref 1), some (.int x1), none, none, some (.int x4), some (.int l5), some (.int l6)], [.int l6, .ref 1, .int y1])) rfl) ?_
      refine go_step (F1 := (41, [some (.ref 1), some (.int x1), none, none, some (.int x4), some (.int l5), some (.int l6)], [.int (t_X5_at l6 64 a2), .int y1])) (M1 := (H, z)) (fun _ => ev_callV (x := (.invokevirtual 33, 3, 55, 4, 479, .null)) (as := [.int l6]) (rest := [.int y1]) rfl rfl u_1 (C_X5_at (S := S) (d := d + 1) (z := z) (x1 := l6) u_1 u_2 (by decide)) rfl) ?_
      refine go_step (fun _ => ev_run 4 (F' := (22, [some (.ref 1), some (.int x1), none, none, some (.int x4), some (.int (y1 ^^^ (t_X5_at l6 64 a2))), some (.int (l6 + (-1 : Int32)))], [])) rfl) ?_
      exact ih (y1 ^^^ (t_X5_at l6 64 a2)) (l6 + (-1 : Int32)) _ h
theorem L_X2_forgedWord_L53 {S : Nat × (Nat → Int32)} {d : Nat} {z : Bool × Nat × Nat} {a2 : Nat → Int32} {c1_1 : Int32} {x4 : Int32} {H : List xE} (u_2 : H[2]? = some (.inl (0, 64, .inl a2))) (u_1 : H[1]? = some (.inr (4, [.ref 2, .int c1_1]))) : ∀ (n : Nat) (l5 : Int32) (l6 : Int32) x, q_X2_forgedWord_L53 n l5 l6 = some x → Go S (d + 2) 29 (53, [none, none, none, none, some (.int x4), some (.int l5), some (.int l6)], []) (H, z) (fun F' M' =>  F' = (72, [none, none, none, none, some (.int x4), some (.int x.1), none], []) ∧ M' = (H, z)) (fun _ => False) := by
  intro n
  induction n with
  | zero =>
    intro l5 l6 x h
    unfold q_X2_forgedWord_L53 at h
    cases h
  | succ n ih =>
    intro l5 l6 x h
    unfold q_X2_forgedWord_L53 at h
    refine go_step (fun _ => ev_run 2 (F' := (56, [none, none, none, none, some (.int x4), some (.int l5), some (.int l6)], [.int (4 : Int32), .int l6])) rfl) ?_
    refine go_icmp rfl (fun (b56 : (4 : Int32) ≤ l6) => ?_) (fun (b56 : ¬ ((4 : Int32) ≤ l6)) => ?_)
    · have h := (if_pos b56).symm.trans h
      refine go_step (fun _ => ev_forget (L' := [none, none, none, none, some (.int x4), some (.int l5), none]) (show xleP _ [none, none, none, none, some (.int x4), some (.int l5), some (.int l6)] from ⟨rfl, ⟨rfl, trivial⟩⟩) rfl) ?_
      cases h
      exact Or.inl ⟨_, _, fun r hr => hr, rfl, rfl⟩
    · have h := (if_neg b56).symm.trans h
      refine go_step (fun _ => ev_run 1 (F' := (61, [none, none, none, none, some (.int x4), some (.int l5), some (.int l6)], [.int l5])) rfl) ?_
      obtain ⟨y1, hy1, h⟩ := okb h
      refine go_step (F1 := (64, [none, none, none, none, some (.int x4), some (.int l5), some (.int l6)], [.int y1])) (M1 := (H, z)) (fun _ => ev_call (x := (.invokestatic 29, 3, 34, 0, 568, .null)) (as := [.int l5]) (rest := []) rfl rfl (C_X2_movedBack (S := S) (d := d + 1) (z := z) (x0 := l5) hy1) rfl) ?_
      refine go_step (fun _ => ev_run 3 (F' := (53, [none, none, none, none, some (.int x4), some (.int y1), some (.int (l6 + (1 : Int32)))], [])) rfl) ?_
      exact ih y1 (l6 + (1 : Int32)) _ h
theorem C_X2_forgedWord {S : Nat × (Nat → Int32)} {d : Nat} {H : List xE} {z : Bool × Nat × Nat} {a2 : Nat → Int32} {c1_1 : Int32} {x1 : Int32} {x2 : Int64} (u_2 : H[2]? = some (.inl (0, 64, .inl a2))) (u_1 : H[1]? = some (.inr (4, [.ref 2, .int c1_1]))) {x : Int32} (h : q_X2_forgedWord x1 x2 a2 c1_1 = some x) : Cm S (d + 2) 29 [.ref 1, .int x1, .long x2] (H, z) (.inr (some (.int x)), (H, z)) := by
  have G : Go S (d + 2) 29 (0, [some (.ref 1), some (.int x1), some (.long x2), none, none, none, none], []) (H, z) (fun _ _ => False) (fun r => r = (.inr (some (.int x)), (H, z))) := by
    unfold q_X2_forgedWord at h
    refine go_step (fun _ => ev_run 3 (F' := (3, [some (.ref 1), some (.int x1), some (.long x2), none, none, none, none], [.int x1, .int (0 : Int32), .ref 1])) rfl) ?_
    obtain ⟨y1, hy1, h⟩ := okb h
    refine go_step (F1 := (6, [some (.ref 1), some (.int x1), some (.long x2), none, none, none, none], [.int y1])) (M1 := (H, z)) (fun _ => ev_call (x := (.invokestatic 9, 3, 31, 0, 476, .null)) (as := [.ref 1, .int (0 : Int32), .int x1]) (rest := []) rfl rfl (C_X2_registerBehind (S := S) (d := d) (z := z) (x1 := (0 : Int32)) (x2 := x1) u_1 u_2 hy1) rfl) ?_
    refine go_step (fun _ => ev_run 7 (F' := (15, [some (.ref 1), some (.int x1), some (.long x2), none, some (.int y1), some (.int ((x2.toInt32) ^^^ (-1 : Int32))), none], [.ref 1])) rfl) ?_
    refine go_step (F1 := (18, [some (.ref 1), some (.int x1), some (.long x2), none, some (.int y1), some (.int ((x2.toInt32) ^^^ (-1 : Int32))), none], [.int (t_X5_size c1_1)])) (M1 := (H, z)) (fun _ => ev_callV (x := (.invokevirtual 23, 3, 53, 4, 567, .null)) (as := []) (rest := []) rfl rfl u_1 (C_X5_size (S := S) (d := d + 1) (z := z) u_1) rfl) ?_
    refine go_step (fun _ => ev_run 3 (F' := (22, [some (.ref 1), some (.int x1), some (.long x2), none, some (.int y1), some (.int ((x2.toInt32) ^^^ (-1 : Int32))), some (.int ((t_X5_size c1_1) - (1 : Int32)))], [])) rfl) ?_
    refine go_step (fun _ => ev_forget (L' := [some (.ref 1), some (.int x1), none, none, some (.int y1), some (.int ((x2.toInt32) ^^^ (-1 : Int32))), some (.int ((t_X5_size c1_1) - (1 : Int32)))]) (show xleP _ [some (.ref 1), some (.int x1), some (.long x2), none, some (.int y1), some (.int ((x2.toInt32) ^^^ (-1 : Int32))), some (.int ((t_X5_size c1_1) - (1 : Int32)))] from ⟨rfl, ⟨rfl, ⟨rfl, ⟨rfl, ⟨rfl, trivial⟩⟩⟩⟩⟩) rfl) ?_
    obtain ⟨y2, hy2, h⟩ := okb h
    obtain ⟨_, _, hr3, rfl, rfl⟩ := go_nr (L_X2_forgedWord_L22 (S := S) (d := d) (z := z) (x1 := x1) (x4 := y1) u_2 u_1 10000 ((x2.toInt32) ^^^ (-1 : Int32)) ((t_X5_size c1_1) - (1 : Int32)) _ hy2)
    refine go_step hr3 ?_
    refine go_step (fun _ => ev_run 2 (F' := (53, [none, none, none, none, some (.int y1), some (.int y2.1), some (.int (0 : Int32))], [])) rfl) ?_
    obtain ⟨y4, hy4, h⟩ := okb h
    obtain ⟨_, _, hr5, rfl, rfl⟩ := go_nr (L_X2_forgedWord_L53 (S := S) (d := d) (z := z) (x4 := y1) u_2 u_1 10000 y2.1 (0 : Int32) _ hy4)
    refine go_step hr5 ?_
    refine go_step (fun _ => ev_run 23 (F' := (108, [none, none, none, none, some (.int y1), some (.int y4.1), some (.int (y1 ^^^ y4.1))], [.int (((((y1 ^^^ y4.1) <<< ((24 : Int32) &&& (31 : Int32))) ||| (((y1 ^^^ y4.1) &&& (65280 : Int32)) <<< ((8 : Int32) &&& (31 : Int32)))) ||| ((xus (y1 ^^^ y4.1) (8 : Int32)) &&& (65280 : Int32))) ||| (xus (y1 ^^^ y4.1) (24 : Int32)))])) rfl) ?_
    cases h
    exact Or.inr ⟨_, ev_ret rfl rfl rfl rfl, rfl⟩
  obtain ⟨_, hE, rfl⟩ := go_end G
  exact hE

/-! Functions of the methods, and that the small machine does what they say: written by a program (wip/whole/dec). -/
abbrev oO : xE := .inr (10, [.ref 1, .ref 3, .ref 7, .ref 8, .ref 9, .ref 10, .ref 11, .ref 12, .ref 13, .ref 14, .ref 15, .ref 17, .ref 19, .ref 23, .ref 33, .ref 35, .ref 40, .ref 45])
def t_X5_at (x1 : Int32) (mq0 : Nat) (aq0 : Nat → Int32) : Int32 := (if x1 < (0 : Int32) then (0 : Int32) else (if (nI mq0) ≤ x1 then (0 : Int32) else (aq0 x1.toNatClampNeg)))
theorem C_X5_at {S : Nat × (Nat → Int32)} {d : Nat} {H : List xE} {z : Bool × Nat × Nat} {h0 q0 : Nat} {ch0_1 : Int32} {mq0 : Nat} {aq0 : Nat → Int32} {x1 : Int32} (u_h0 : H[h0]? = some (.inr (4, [.ref q0, .int ch0_1]))) (u_q0 : H[q0]? = some (.inl (0, mq0, .inl aq0))) (hm_q0 : mq0 < 2147483648) : Cm S d 55 [.ref h0, .int x1] (H, z) (.inr (some (.int (t_X5_at x1 mq0 aq0))), (H, z)) := by
  have G : ∀ x, t_X5_at x1 mq0 aq0 = x → Go S d 55 (0, [some (.ref h0), some (.int x1)], []) (H, z) (fun _ _ => False) (fun r => r = (.inr (some (.int x)), (H, z))) := by
    intro x h
    unfold t_X5_at at h
    refine go_step (fun _ => ev_run 1 (F' := (1, [some (.ref h0), some (.int x1)], [.int x1])) rfl) ?_
    refine go_if rfl (fun (b1 : x1 < (0 : Int32)) => ?_) (fun (b1 : ¬ (x1 < (0 : Int32))) => ?_)
    · have h := (if_pos b1).symm.trans h
      refine go_step (fun _ => ev_run 1 (F' := (23, [some (.ref h0), some (.int x1)], [.int (0 : Int32)])) rfl) ?_
      cases h
      exact Or.inr ⟨_, ev_ret rfl rfl rfl rfl, rfl⟩
    · have h := (if_neg b1).symm.trans h
      refine go_step (fun _ => ev_run 2 (F' := (6, [some (.ref h0), some (.int x1)], [.ref h0, .int x1])) rfl) ?_
      refine go_step (fun _ => ev_getf rfl u_h0 rfl) ?_
      refine go_step (fun _ => ev_alen rfl u_q0 rfl) ?_
      refine go_icmp rfl (fun (b10 : (nI mq0) ≤ x1) => ?_) (fun (b10 : ¬ ((nI mq0) ≤ x1)) => ?_)
      · have h := (if_pos b10).symm.trans h
        refine go_step (fun _ => ev_run 1 (F' := (23, [some (.ref h0), some (.int x1)], [.int (0 : Int32)])) rfl) ?_
        cases h
        exact Or.inr ⟨_, ev_ret rfl rfl rfl rfl, rfl⟩
      · have h := (if_neg b10).symm.trans h
        refine go_step (fun _ => ev_run 1 (F' := (14, [some (.ref h0), some (.int x1)], [.ref h0])) rfl) ?_
        refine go_step (fun _ => ev_getf rfl u_h0 rfl) ?_
        refine go_step (fun _ => ev_run 1 (F' := (18, [some (.ref h0), some (.int x1)], [.int x1, .ref q0])) rfl) ?_
        refine go_step (fun _ => ev_iald rfl u_q0 (xin_of hm_q0 b1 b10)) ?_
        refine go_step (fun _ => ev_run 1 (F' := (23, [some (.ref h0), some (.int x1)], [.int (aq0 x1.toNatClampNeg)])) rfl) ?_
        cases h
        exact Or.inr ⟨_, ev_ret rfl rfl rfl rfl, rfl⟩
  obtain ⟨_, hE, rfl⟩ := go_end (G _ rfl)
  exact hE
def t_X5_change (x1 : Int32) (x2 : Int32) (mq0 : Nat) (aq0 : Nat → Int32) : Nat → Int32 := (if x1 < (0 : Int32) then aq0 else (if (nI mq0) ≤ x1 then aq0 else (upd aq0 x1.toNatClampNeg x2)))
theorem C_X5_change {S : Nat × (Nat → Int32)} {d : Nat} {H : List xE} {z : Bool × Nat × Nat} {h0 q0 : Nat} {ch0_1 : Int32} {mq0 : Nat} {aq0 : Nat → Int32} {x1 : Int32} {x2 : Int32} (u_h0 : H[h0]? = some (.inr (4, [.ref q0, .int ch0_1]))) (u_q0 : H[q0]? = some (.inl (0, mq0, .inl aq0))) (hm_q0 : mq0 < 2147483648) : ∃ H' : List xE, Cm S d 56 [.ref h0, .int x1, .int x2] (H, z) (.inr none, (H', z)) ∧ H'[q0]? = some (.inl (0, mq0, .inl (t_X5_change x1 x2 mq0 aq0))) ∧ xfr [q0] H H' := by
  have G : ∀ x, t_X5_change x1 x2 mq0 aq0 = x → Go S d 56 (0, [some (.ref h0), some (.int x1), some (.int x2)], []) (H, z) (fun _ _ => False) (fun r => ∃ H' : List xE, r = (.inr none, (H', z)) ∧ H'[q0]? = some (.inl (0, mq0, .inl x)) ∧ xfr [q0] H H') := by
    intro x h
    unfold t_X5_change at h
    refine go_step (fun _ => ev_run 1 (F' := (1, [some (.ref h0), some (.int x1), some (.int x2)], [.int x1])) rfl) ?_
    refine go_if rfl (fun (b1 : x1 < (0 : Int32)) => ?_) (fun (b1 : ¬ (x1 < (0 : Int32))) => ?_)
    · have h := (if_pos b1).symm.trans h
      cases h
      exact Or.inr ⟨_, ev_ret rfl rfl rfl rfl, H, rfl, u_q0, xfr_refl⟩
    · have h := (if_neg b1).symm.trans h
      refine go_step (fun _ => ev_run 2 (F' := (6, [some (.ref h0), some (.int x1), some (.int x2)], [.ref h0, .int x1])) rfl) ?_
      refine go_step (fun _ => ev_getf rfl u_h0 rfl) ?_
      refine go_step (fun _ => ev_alen rfl u_q0 rfl) ?_
      refine go_icmp rfl (fun (b10 : (nI mq0) ≤ x1) => ?_) (fun (b10 : ¬ ((nI mq0) ≤ x1)) => ?_)
      · have h := (if_pos b10).symm.trans h
        cases h
        exact Or.inr ⟨_, ev_ret rfl rfl rfl rfl, H, rfl, u_q0, xfr_refl⟩
      · have h := (if_neg b10).symm.trans h
        refine go_step (fun _ => ev_run 1 (F' := (14, [some (.ref h0), some (.int x1), some (.int x2)], [.ref h0])) rfl) ?_
        refine go_step (fun _ => ev_getf rfl u_h0 rfl) ?_
        refine go_step (fun _ => ev_run 2 (F' := (19, [some (.ref h0), some (.int x1), some (.int x2)], [.int x2, .int x1, .ref q0])) rfl) ?_
        refine go_iast rfl u_q0 (xin_of hm_q0 b1 b10) (fun H1 (eH1 : H1[q0]? = some (.inl (0, mq0, .inl (upd aq0 x1.toNatClampNeg x2)))) fH1 => ?_)
        cases h
        exact Or.inr ⟨_, ev_ret rfl rfl rfl rfl, H1, rfl, eH1, (xfr_t xfr_refl (xs_c xm_h rfl) fH1)⟩
  obtain ⟨_, hE, H', rfl, hrest⟩ := go_end (G _ rfl)
  exact ⟨H', hE, hrest⟩
def q_X5_copy_L18 (ch0_1 : Int32) (mq0 : Nat) (mq1 : Nat) (aq1 : Nat → Int32) : Nat → Int32 → (Nat → Int32) → Option (Int32 × (Nat → Int32))
  | 0, _, _ => none
  | n + 1, l2, aq0 => (if ch0_1 ≤ l2 then (some (l2, aq0)) else (q_X5_copy_L18 ch0_1 mq0 mq1 aq1 n (l2 + (1 : Int32)) (t_X5_change l2 (t_X5_at l2 mq1 aq1) mq0 aq0)))
def q_X5_copy (ch1_1 : Int32) (mq0 : Nat) (aq0 : Nat → Int32) (mq1 : Nat) (aq1 : Nat → Int32) : Option (Int32 × (Nat → Int32)) := ((q_X5_copy_L18 (if (nI mq0) < ch1_1 then (nI mq0) else ch1_1) mq0 mq1 aq1 10000 (0 : Int32) aq0).bind (fun y2 => (some ((if (nI mq0) < ch1_1 then (nI mq0) else ch1_1), y2.2))))
theorem L_X5_copy_L18 {S : Nat × (Nat → Int32)} {d : Nat} {z : Bool × Nat × Nat} {h1 h0 q0 q1 : Nat} {ch1_1 : Int32} {ch0_1 : Int32} {mq0 : Nat} {mq1 : Nat} {aq1 : Nat → Int32} {H0 : List xE} (u_h1 : H0[h1]? = some (.inr (4, [.ref q1, .int ch1_1]))) (u_h0 : H0[h0]? = some (.inr (4, [.ref q0, .int ch0_1]))) (u_q1 : H0[q1]? = some (.inl (0, mq1, .inl aq1))) (ne_h0_h1 : h0 ≠ h1) (ne_h0_q0 : h0 ≠ q0) (ne_h0_q1 : h0 ≠ q1) (ne_h1_q0 : h1 ≠ q0) (ne_q0_q1 : q0 ≠ q1) (hm_q0 : mq0 < 2147483648) (hm_q1 : mq1 < 2147483648) : ∀ (n : Nat) (l2 : Int32) (aq0 : Nat → Int32) (H : List xE), xfr [q0] H0 H → H[q0]? = some (.inl (0, mq0, .inl aq0)) → ∀ x, q_X5_copy_L18 ch0_1 mq0 mq1 aq1 n l2 aq0 = some x → Go S (d + 1) 60 (18, [some (.ref h0), some (.ref h1), some (.int l2)], []) (H, z) (fun F' M' => ∃ H' : List xE, F' = (42, [none, none, none], []) ∧ M' = (H', z) ∧ H'[q0]? = some (.inl (0, mq0, .inl x.2)) ∧ xfr [q0] H0 H') (fun _ => False) := by
  intro n
  induction n with
  | zero =>
    intro l2 aq0 H fr e_q0 x h
    unfold q_X5_copy_L18 at h
    cases h
  | succ n ih =>
    intro l2 aq0 H fr e_q0 x h
    unfold q_X5_copy_L18 at h
    refine go_step (fun _ => ev_run 2 (F' := (20, [some (.ref h0), some (.ref h1), some (.int l2)], [.ref h0, .int l2])) rfl) ?_
    refine go_step (fun _ => ev_getf rfl ((fr h0 (xo_c (Ne.symm ne_h0_q0) rfl)).trans u_h0) rfl) ?_
    refine go_icmp rfl (fun (b23 : ch0_1 ≤ l2) => ?_) (fun (b23 : ¬ (ch0_1 ≤ l2)) => ?_)
    · have h := (if_pos b23).symm.trans h
      refine go_step (fun _ => ev_forget (L' := [none, none, none]) (show xleP _ [some (.ref h0), some (.ref h1), some (.int l2)] from trivial) rfl) ?_
      cases h
      exact Or.inl ⟨_, _, fun r hr => hr, H, rfl, rfl, e_q0, fr⟩
    · have h := (if_neg b23).symm.trans h
      refine go_step (fun _ => ev_run 4 (F' := (30, [some (.ref h0), some (.ref h1), some (.int l2)], [.int l2, .ref h1, .int l2, .ref h0])) rfl) ?_
      refine go_step (F1 := (33, [some (.ref h0), some (.ref h1), some (.int l2)], [.int (t_X5_at l2 mq1 aq1), .int l2, .ref h0])) (M1 := (H, z)) (fun _ => ev_callV (x := (.invokevirtual 27, 3, 55, 4, 444, .null)) (as := [.int l2]) (rest := [.int l2, .ref h0]) rfl rfl ((fr h1 (xo_c (Ne.symm ne_h1_q0) rfl)).trans u_h1) (C_X5_at (S := S) (d := d) (z := z) (x1 := l2) ((fr h1 (xo_c (Ne.symm ne_h1_q0) rfl)).trans u_h1) ((fr q1 (xo_c ne_q0_q1 rfl)).trans u_q1) hm_q1) rfl) ?_
      obtain ⟨H1, hCH1, eH1_q0, fH1⟩ := C_X5_change (S := S) (d := d) (z := z) (x1 := l2) (x2 := (t_X5_at l2 mq1 aq1)) ((fr h0 (xo_c (Ne.symm ne_h0_q0) rfl)).trans u_h0) e_q0 hm_q0
      refine go_step (F1 := (36, [some (.ref h0), some (.ref h1), some (.int l2)], [])) (M1 := (H1, z)) (fun _ => ev_callV (x := (.invokevirtual 31, 3, 56, 4, 445, .null)) (as := [.int l2, .int (t_X5_at l2 mq1 aq1)]) (rest := []) rfl rfl ((fr h0 (xo_c (Ne.symm ne_h0_q0) rfl)).trans u_h0) hCH1 rfl) ?_
      refine go_step (fun _ => ev_run 2 (F' := (18, [some (.ref h0), some (.ref h1), some (.int (l2 + (1 : Int32)))], [])) rfl) ?_
      exact ih (l2 + (1 : Int32)) (t_X5_change l2 (t_X5_at l2 mq1 aq1) mq0 aq0) H1 (xfr_t fr (xs_c xm_h rfl) fH1) eH1_q0 _ h
theorem C_X5_copy {S : Nat × (Nat → Int32)} {d : Nat} {H : List xE} {z : Bool × Nat × Nat} {h1 h0 q0 q1 : Nat} {ch1_1 : Int32} {ch0_1 : Int32} {mq0 : Nat} {aq0 : Nat → Int32} {mq1 : Nat} {aq1 : Nat → Int32} (u_h1 : H[h1]? = some (.inr (4, [.ref q1, .int ch1_1]))) (u_h0 : H[h0]? = some (.inr (4, [.ref q0, .int ch0_1]))) (u_q0 : H[q0]? = some (.inl (0, mq0, .inl aq0))) (u_q1 : H[q1]? = some (.inl (0, mq1, .inl aq1))) (ne_h0_h1 : h0 ≠ h1) (ne_h0_q0 : h0 ≠ q0) (ne_h0_q1 : h0 ≠ q1) (ne_h1_q0 : h1 ≠ q0) (ne_q0_q1 : q0 ≠ q1) (hm_q0 : mq0 < 2147483648) (hm_q1 : mq1 < 2147483648) {x : (Int32 × (Nat → Int32))} (h : q_X5_copy ch1_1 mq0 aq0 mq1 aq1 = some x) : ∃ H' : List xE, Cm S (d + 1) 60 [.ref h0, .ref h1] (H, z) (.inr none, (H', z)) ∧ H'[h0]? = some (.inr (4, [.ref q0, .int x.1])) ∧ H'[q0]? = some (.inl (0, mq0, .inl x.2)) ∧ xfr [h0, q0] H H' := by
  have G : Go S (d + 1) 60 (0, [some (.ref h0), some (.ref h1), none], []) (H, z) (fun _ _ => False) (fun r => ∃ H' : List xE, r = (.inr none, (H', z)) ∧ H'[h0]? = some (.inr (4, [.ref q0, .int x.1])) ∧ H'[q0]? = some (.inl (0, mq0, .inl x.2)) ∧ xfr [h0, q0] H H') := by
    unfold q_X5_copy at h
    refine go_step (fun _ => ev_run 2 (F' := (2, [some (.ref h0), some (.ref h1), none], [.ref h1, .ref h0])) rfl) ?_
    refine go_step (fun _ => ev_getf rfl u_h1 rfl) ?_
    refine go_step (fun _ => ev_run 1 (F' := (6, [some (.ref h0), some (.ref h1), none], [.ref h0, .int ch1_1, .ref h0])) rfl) ?_
    refine go_step (fun _ => ev_getf rfl u_h0 rfl) ?_
    refine go_step (fun _ => ev_alen rfl u_q0 rfl) ?_
    refine go_step (fun _ => ev_run 1 (F' := (13, [some (.ref h0), some (.ref h1), none], [.int (if (nI mq0) < ch1_1 then (nI mq0) else ch1_1), .ref h0])) rfl) ?_
    refine go_putf rfl u_h0 rfl (fun H1 (eH1 : H1[h0]? = some (.inr (4, [.ref q0, .int (if (nI mq0) < ch1_1 then (nI mq0) else ch1_1)]))) fH1 => ?_)
    refine go_step (fun _ => ev_run 2 (F' := (18, [some (.ref h0), some (.ref h1), some (.int (0 : Int32))], [])) rfl) ?_
    obtain ⟨y2, hy2, h⟩ := okb h
    obtain ⟨_, _, hr4, H3, rfl, rfl, eH3_q0, fH3⟩ := go_nr (L_X5_copy_L18 (S := S) (d := d) (z := z) ((fH1 h1 (xo_c ne_h0_h1 rfl)).trans u_h1) eH1 ((fH1 q1 (xo_c ne_h0_q1 rfl)).trans u_q1) ne_h0_h1 ne_h0_q0 ne_h0_q1 ne_h1_q0 ne_q0_q1 hm_q0 hm_q1 10000 (0 : Int32) aq0 H1 xfr_refl ((fH1 q0 (xo_c ne_h0_q0 rfl)).trans u_q0) _ hy2)
    refine go_step hr4 ?_
    cases h
    exact Or.inr ⟨_, ev_ret rfl rfl rfl rfl, H3, rfl, ((fH3 h0 (xo_c (Ne.symm ne_h0_q0) rfl)).trans eH1), eH3_q0, (xfr_t (xfr_t xfr_refl (xs_c xm_h rfl) fH1) (xs_c (xm_t xm_h) rfl) fH3)⟩
  obtain ⟨_, hE, H', rfl, hrest⟩ := go_end G
  exact ⟨H', hE, hrest⟩
def t_X5_size (ch0_1 : Int32) : Int32 := ch0_1
theorem C_X5_size {S : Nat × (Nat → Int32)} {d : Nat} {H : List xE} {z : Bool × Nat × Nat} {h0 q0 : Nat} {ch0_1 : Int32} (u_h0 : H[h0]? = some (.inr (4, [.ref q0, .int ch0_1]))) : Cm S d 53 [.ref h0] (H, z) (.inr (some (.int (t_X5_size ch0_1))), (H, z)) := by
  have G : ∀ x, t_X5_size ch0_1 = x → Go S d 53 (0, [some (.ref h0)], []) (H, z) (fun _ _ => False) (fun r => r = (.inr (some (.int x)), (H, z))) := by
    intro x h
    unfold t_X5_size at h
    refine go_step (fun _ => ev_run 1 (F' := (1, [some (.ref h0)], [.ref h0])) rfl) ?_
    refine go_step (fun _ => ev_getf rfl u_h0 rfl) ?_
    cases h
    exact Or.inr ⟨_, ev_ret rfl rfl rfl rfl, rfl⟩
  obtain ⟨_, hE, rfl⟩ := go_end (G _ rfl)
  exact hE
def t_X11_byteOfWord (x0 : Int32) (x1 : Int32) : Int32 := ((xus x0 ((24 : Int32) - ((8 : Int32) * x1))) &&& (255 : Int32))
theorem C_X11_byteOfWord {S : Nat × (Nat → Int32)} {d : Nat} {H : List xE} {z : Bool × Nat × Nat} {x0 : Int32} {x1 : Int32} : Cm S d 156 [.int x0, .int x1] (H, z) (.inr (some (.int (t_X11_byteOfWord x0 x1))), (H, z)) := by
  have G : ∀ x, t_X11_byteOfWord x0 x1 = x → Go S d 156 (0, [some (.int x0), some (.int x1)], []) (H, z) (fun _ _ => False) (fun r => r = (.inr (some (.int x)), (H, z))) := by
    intro x h
    unfold t_X11_byteOfWord at h
    refine go_step (fun _ => ev_run 9 (F' := (13, [some (.int x0), some (.int x1)], [.int ((xus x0 ((24 : Int32) - ((8 : Int32) * x1))) &&& (255 : Int32))])) rfl) ?_
    cases h
    exact Or.inr ⟨_, ev_ret rfl rfl rfl rfl, rfl⟩
  obtain ⟨_, hE, rfl⟩ := go_end (G _ rfl)
  exact hE
def t_X5_empty : Int32 := (0 : Int32)
theorem C_X5_empty {S : Nat × (Nat → Int32)} {d : Nat} {H : List xE} {z : Bool × Nat × Nat} {h0 q0 : Nat} {ch0_1 : Int32} (u_h0 : H[h0]? = some (.inr (4, [.ref q0, .int ch0_1]))) : ∃ H' : List xE, Cm S d 59 [.ref h0] (H, z) (.inr none, (H', z)) ∧ H'[h0]? = some (.inr (4, [.ref q0, .int (t_X5_empty)])) ∧ xfr [h0] H H' := by
  have G : ∀ x, t_X5_empty = x → Go S d 59 (0, [some (.ref h0)], []) (H, z) (fun _ _ => False) (fun r => ∃ H' : List xE, r = (.inr none, (H', z)) ∧ H'[h0]? = some (.inr (4, [.ref q0, .int x])) ∧ xfr [h0] H H') := by
    intro x h
    unfold t_X5_empty at h
    refine go_step (fun _ => ev_run 2 (F' := (2, [some (.ref h0)], [.int (0 : Int32), .ref h0])) rfl) ?_
    refine go_putf rfl u_h0 rfl (fun H1 (eH1 : H1[h0]? = some (.inr (4, [.ref q0, .int (0 : Int32)]))) fH1 => ?_)
    cases h
    exact Or.inr ⟨_, ev_ret rfl rfl rfl rfl, H1, rfl, eH1, (xfr_t xfr_refl (xs_c xm_h rfl) fH1)⟩
  obtain ⟨_, hE, H', rfl, hrest⟩ := go_end (G _ rfl)
  exact ⟨H', hE, hrest⟩
def q_X5_openAt_L30 (x1 : Int32) (mq0 : Nat) : Nat → Int32 → (Nat → Int32) → Option (Int32 × (Nat → Int32))
  | 0, _, _ => none
  | n + 1, l3, aq0 => (if l3 ≤ x1 then (some (l3, aq0)) else (q_X5_openAt_L30 x1 mq0 n (l3 + (-1 : Int32)) (t_X5_change l3 (t_X5_at (l3 - (1 : Int32)) mq0 aq0) mq0 aq0)))
def q_X5_openAt (x1 : Int32) (x2 : Int32) (ch0_1 : Int32) (mq0 : Nat) (aq0 : Nat → Int32) : Option (Int32 × (Nat → Int32)) := (if (nI mq0) ≤ ch0_1 then (some (ch0_1, aq0)) else (if x1 < (0 : Int32) then (some (ch0_1, aq0)) else (if x1 ≤ ch0_1 then ((q_X5_openAt_L30 x1 mq0 10000 ch0_1 aq0).bind (fun y1 => (some ((ch0_1 + (1 : Int32)), (t_X5_change x1 x2 mq0 y1.2))))) else (some (ch0_1, aq0)))))
theorem L_X5_openAt_L30 {S : Nat × (Nat → Int32)} {d : Nat} {z : Bool × Nat × Nat} {h0 q0 : Nat} {ch0_1 : Int32} {x1 : Int32} {mq0 : Nat} {x2 : Int32} {H0 : List xE} (u_h0 : H0[h0]? = some (.inr (4, [.ref q0, .int ch0_1]))) (ne_h0_q0 : h0 ≠ q0) (hm_q0 : mq0 < 2147483648) : ∀ (n : Nat) (l3 : Int32) (aq0 : Nat → Int32) (H : List xE), xfr [q0] H0 H → H[q0]? = some (.inl (0, mq0, .inl aq0)) → ∀ x, q_X5_openAt_L30 x1 mq0 n l3 aq0 = some x → Go S (d + 1) 58 (30, [some (.ref h0), some (.int x1), some (.int x2), some (.int l3)], []) (H, z) (fun F' M' => ∃ H' : List xE, F' = (53, [some (.ref h0), some (.int x1), some (.int x2), none], []) ∧ M' = (H', z) ∧ H'[q0]? = some (.inl (0, mq0, .inl x.2)) ∧ xfr [q0] H0 H') (fun _ => False) := by
  intro n
  induction n with
  | zero =>
    intro l3 aq0 H fr e_q0 x h
    unfold q_X5_openAt_L30 at h
    cases h
  | succ n ih =>
    intro l3 aq0 H fr e_q0 x h
    unfold q_X5_openAt_L30 at h
    refine go_step (fun _ => ev_run 2 (F' := (32, [some (.ref h0), some (.int x1), some (.int x2), some (.int l3)], [.int x1, .int l3])) rfl) ?_
    refine go_icmp rfl (fun (b32 : l3 ≤ x1) => ?_) (fun (b32 : ¬ (l3 ≤ x1)) => ?_)
    · have h := (if_pos b32).symm.trans h
      refine go_step (fun _ => ev_forget (L' := [some (.ref h0), some (.int x1), some (.int x2), none]) (show xleP _ [some (.ref h0), some (.int x1), some (.int x2), some (.int l3)] from ⟨rfl, ⟨rfl, ⟨rfl, trivial⟩⟩⟩) rfl) ?_
      cases h
      exact Or.inl ⟨_, _, fun r hr => hr, H, rfl, rfl, e_q0, fr⟩
    · have h := (if_neg b32).symm.trans h
      refine go_step (fun _ => ev_run 6 (F' := (41, [some (.ref h0), some (.int x1), some (.int x2), some (.int l3)], [.int (l3 - (1 : Int32)), .ref h0, .int l3, .ref h0])) rfl) ?_
      refine go_step (F1 := (44, [some (.ref h0), some (.int x1), some (.int x2), some (.int l3)], [.int (t_X5_at (l3 - (1 : Int32)) mq0 aq0), .int l3, .ref h0])) (M1 := (H, z)) (fun _ => ev_callV (x := (.invokevirtual 27, 3, 55, 4, 444, .null)) (as := [.int (l3 - (1 : Int32))]) (rest := [.int l3, .ref h0]) rfl rfl ((fr h0 (xo_c (Ne.symm ne_h0_q0) rfl)).trans u_h0) (C_X5_at (S := S) (d := d) (z := z) (x1 := (l3 - (1 : Int32))) ((fr h0 (xo_c (Ne.symm ne_h0_q0) rfl)).trans u_h0) e_q0 hm_q0) rfl) ?_
      obtain ⟨H1, hCH1, eH1_q0, fH1⟩ := C_X5_change (S := S) (d := d) (z := z) (x1 := l3) (x2 := (t_X5_at (l3 - (1 : Int32)) mq0 aq0)) ((fr h0 (xo_c (Ne.symm ne_h0_q0) rfl)).trans u_h0) e_q0 hm_q0
      refine go_step (F1 := (47, [some (.ref h0), some (.int x1), some (.int x2), some (.int l3)], [])) (M1 := (H1, z)) (fun _ => ev_callV (x := (.invokevirtual 31, 3, 56, 4, 445, .null)) (as := [.int l3, .int (t_X5_at (l3 - (1 : Int32)) mq0 aq0)]) (rest := []) rfl rfl ((fr h0 (xo_c (Ne.symm ne_h0_q0) rfl)).trans u_h0) hCH1 rfl) ?_
      refine go_step (fun _ => ev_run 2 (F' := (30, [some (.ref h0), some (.int x1), some (.int x2), some (.int (l3 + (-1 : Int32)))], [])) rfl) ?_
      exact ih (l3 + (-1 : Int32)) (t_X5_change l3 (t_X5_at (l3 - (1 : Int32)) mq0 aq0) mq0 aq0) H1 (xfr_t fr (xs_c xm_h rfl) fH1) eH1_q0 _ h
theorem C_X5_openAt {S : Nat × (Nat → Int32)} {d : Nat} {H : List xE} {z : Bool × Nat × Nat} {h0 q0 : Nat} {ch0_1 : Int32} {mq0 : Nat} {aq0 : Nat → Int32} {x1 : Int32} {x2 : Int32} (u_h0 : H[h0]? = some (.inr (4, [.ref q0, .int ch0_1]))) (u_q0 : H[q0]? = some (.inl (0, mq0, .inl aq0))) (ne_h0_q0 : h0 ≠ q0) (hm_q0 : mq0 < 2147483648) {x : (Int32 × (Nat → Int32))} (h : q_X5_openAt x1 x2 ch0_1 mq0 aq0 = some x) : ∃ H' : List xE, Cm S (d + 1) 58 [.ref h0, .int x1, .int x2] (H, z) (.inr none, (H', z)) ∧ H'[h0]? = some (.inr (4, [.ref q0, .int x.1])) ∧ H'[q0]? = some (.inl (0, mq0, .inl x.2)) ∧ xfr [h0, q0] H H' := by
  have G : Go S (d + 1) 58 (0, [some (.ref h0), some (.int x1), some (.int x2), none], []) (H, z) (fun _ _ => False) (fun r => ∃ H' : List xE, r = (.inr none, (H', z)) ∧ H'[h0]? = some (.inr (4, [.ref q0, .int x.1])) ∧ H'[q0]? = some (.inl (0, mq0, .inl x.2)) ∧ xfr [h0, q0] H H') := by
    unfold q_X5_openAt at h
    refine go_step (fun _ => ev_run 1 (F' := (1, [some (.ref h0), some (.int x1), some (.int x2), none], [.ref h0])) rfl) ?_
    refine go_step (fun _ => ev_getf rfl u_h0 rfl) ?_
    refine go_step (fun _ => ev_run 1 (F' := (5, [some (.ref h0), some (.int x1), some (.int x2), none], [.ref h0, .int ch0_1])) rfl) ?_
    refine go_step (fun _ => ev_getf rfl u_h0 rfl) ?_
    refine go_step (fun _ => ev_alen rfl u_q0 rfl) ?_
    refine go_icmp rfl (fun (b9 : (nI mq0) ≤ ch0_1) => ?_) (fun (b9 : ¬ ((nI mq0) ≤ ch0_1)) => ?_)
    · have h := (if_pos b9).symm.trans h
      cases h
      exact Or.inr ⟨_, ev_ret rfl rfl rfl rfl, H, rfl, u_h0, u_q0, xfr_refl⟩
    · have h := (if_neg b9).symm.trans h
      refine go_step (fun _ => ev_run 1 (F' := (13, [some (.ref h0), some (.int x1), some (.int x2), none], [.int x1])) rfl) ?_
      refine go_if rfl (fun (b13 : x1 < (0 : Int32)) => ?_) (fun (b13 : ¬ (x1 < (0 : Int32))) => ?_)
      · have h := (if_pos b13).symm.trans h
        cases h
        exact Or.inr ⟨_, ev_ret rfl rfl rfl rfl, H, rfl, u_h0, u_q0, xfr_refl⟩
      · have h := (if_neg b13).symm.trans h
        refine go_step (fun _ => ev_run 2 (F' := (18, [some (.ref h0), some (.int x1), some (.int x2), none], [.ref h0, .int x1])) rfl) ?_
        refine go_step (fun _ => ev_getf rfl u_h0 rfl) ?_
        refine go_icmp rfl (fun (b21 : x1 ≤ ch0_1) => ?_) (fun (b21 : ¬ (x1 ≤ ch0_1)) => ?_)
        · have h := (if_pos b21).symm.trans h
          refine go_step (fun _ => ev_run 1 (F' := (26, [some (.ref h0), some (.int x1), some (.int x2), none], [.ref h0])) rfl) ?_
          refine go_step (fun _ => ev_getf rfl u_h0 rfl) ?_
          refine go_step (fun _ => ev_run 1 (F' := (30, [some (.ref h0), some (.int x1), some (.int x2), some (.int ch0_1)], [])) rfl) ?_
          obtain ⟨y1, hy1, h⟩ := okb h
          obtain ⟨_, _, hr3, H2, rfl, rfl, eH2_q0, fH2⟩ := go_nr (L_X5_openAt_L30 (S := S) (d := d) (z := z) (x1 := x1) (x2 := x2) u_h0 ne_h0_q0 hm_q0 10000 ch0_1 aq0 H xfr_refl u_q0 _ hy1)
          refine go_step hr3 ?_
          refine go_step (fun _ => ev_run 3 (F' := (56, [some (.ref h0), some (.int x1), some (.int x2), none], [.int x2, .int x1, .ref h0])) rfl) ?_
          obtain ⟨H4, hCH4, eH4_q0, fH4⟩ := C_X5_change (S := S) (d := d) (z := z) (x1 := x1) (x2 := x2) ((fH2 h0 (xo_c (Ne.symm ne_h0_q0) rfl)).trans u_h0) eH2_q0 hm_q0
          refine go_step (F1 := (59, [some (.ref h0), some (.int x1), some (.int x2), none], [])) (M1 := (H4, z)) (fun _ => ev_callV (x := (.invokevirtual 31, 3, 56, 4, 445, .null)) (as := [.int x1, .int x2]) (rest := []) rfl rfl ((fH2 h0 (xo_c (Ne.symm ne_h0_q0) rfl)).trans u_h0) hCH4 rfl) ?_
          refine go_step (fun _ => ev_run 2 (F' := (61, [some (.ref h0), some (.int x1), some (.int x2), none], [.ref h0, .ref h0])) rfl) ?_
          refine go_step (fun _ => ev_getf rfl ((fH4 h0 (xo_c (Ne.symm ne_h0_q0) rfl)).trans ((fH2 h0 (xo_c (Ne.symm ne_h0_q0) rfl)).trans u_h0)) rfl) ?_
          refine go_step (fun _ => ev_run 2 (F' := (66, [some (.ref h0), some (.int x1), some (.int x2), none], [.int (ch0_1 + (1 : Int32)), .ref h0])) rfl) ?_
          refine go_putf rfl ((fH4 h0 (xo_c (Ne.symm ne_h0_q0) rfl)).trans ((fH2 h0 (xo_c (Ne.symm ne_h0_q0) rfl)).trans u_h0)) rfl (fun H5 (eH5 : H5[h0]? = some (.inr (4, [.ref q0, .int (ch0_1 + (1 : Int32))]))) fH5 => ?_)
          cases h
          exact Or.inr ⟨_, ev_ret rfl rfl rfl rfl, H5, rfl, eH5, ((fH5 q0 (xo_c ne_h0_q0 rfl)).trans eH4_q0), (xfr_t (xfr_t (xfr_t xfr_refl (xs_c (xm_t xm_h) rfl) fH2) (xs_c (xm_t xm_h) rfl) fH4) (xs_c xm_h rfl) fH5)⟩
        · have h := (if_neg b21).symm.trans h
          cases h
          exact Or.inr ⟨_, ev_ret rfl rfl rfl rfl, H, rfl, u_h0, u_q0, xfr_refl⟩
  obtain ⟨_, hE, H', rfl, hrest⟩ := go_end G
  exact ⟨H', hE, hrest⟩
def q_X5_append (x1 : Int32) (ch0_1 : Int32) (mq0 : Nat) (aq0 : Nat → Int32) : Option (Int32 × (Nat → Int32)) := ((q_X5_openAt ch0_1 x1 ch0_1 mq0 aq0).bind (fun y1 => (some (y1.1, y1.2))))
theorem C_X5_append {S : Nat × (Nat → Int32)} {d : Nat} {H : List xE} {z : Bool × Nat × Nat} {h0 q0 : Nat} {ch0_1 : Int32} {mq0 : Nat} {aq0 : Nat → Int32} {x1 : Int32} (u_h0 : H[h0]? = some (.inr (4, [.ref q0, .int ch0_1]))) (u_q0 : H[q0]? = some (.inl (0, mq0, .inl aq0))) (ne_h0_q0 : h0 ≠ q0) (hm_q0 : mq0 < 2147483648) {x : (Int32 × (Nat → Int32))} (h : q_X5_append x1 ch0_1 mq0 aq0 = some x) : ∃ H' : List xE, Cm S (d + 2) 57 [.ref h0, .int x1] (H, z) (.inr none, (H', z)) ∧ H'[h0]? = some (.inr (4, [.ref q0, .int x.1])) ∧ H'[q0]? = some (.inl (0, mq0, .inl x.2)) ∧ xfr [h0, q0] H H' := by
  have G : Go S (d + 2) 57 (0, [some (.ref h0), some (.int x1)], []) (H, z) (fun _ _ => False) (fun r => ∃ H' : List xE, r = (.inr none, (H', z)) ∧ H'[h0]? = some (.inr (4, [.ref q0, .int x.1])) ∧ H'[q0]? = some (.inl (0, mq0, .inl x.2)) ∧ xfr [h0, q0] H H') := by
    unfold q_X5_append at h
    refine go_step (fun _ => ev_run 2 (F' := (2, [some (.ref h0), some (.int x1)], [.ref h0, .ref h0])) rfl) ?_
    refine go_step (fun _ => ev_getf rfl u_h0 rfl) ?_
    refine go_step (fun _ => ev_run 1 (F' := (6, [some (.ref h0), some (.int x1)], [.int x1, .int ch0_1, .ref h0])) rfl) ?_
    obtain ⟨y1, hy1, h⟩ := okb h
    obtain ⟨H2, hCH2, eH2_h0, eH2_q0, fH2⟩ := C_X5_openAt (S := S) (d := d) (z := z) (x1 := ch0_1) (x2 := x1) u_h0 u_q0 ne_h0_q0 hm_q0 hy1
    refine go_step (F1 := (9, [some (.ref h0), some (.int x1)], [])) (M1 := (H2, z)) (fun _ => ev_callV (x := (.invokevirtual 23, 3, 58, 4, 440, .null)) (as := [.int ch0_1, .int x1]) (rest := []) rfl rfl u_h0 hCH2 rfl) ?_
    cases h
    exact Or.inr ⟨_, ev_ret rfl rfl rfl rfl, H2, rfl, eH2_h0, eH2_q0, (xfr_t xfr_refl (xs_c xm_h (xs_c (xm_t xm_h) rfl)) fH2)⟩
  obtain ⟨_, hE, H', rfl, hrest⟩ := go_end G
  exact ⟨H', hE, hrest⟩
def t_X5_has (x1 : Int32) (ch0_1 : Int32) : Int32 := (if x1 < (0 : Int32) then (0 : Int32) else (if ch0_1 ≤ x1 then (0 : Int32) else (1 : Int32)))
theorem C_X5_has {S : Nat × (Nat → Int32)} {d : Nat} {H : List xE} {z : Bool × Nat × Nat} {h0 q0 : Nat} {ch0_1 : Int32} {x1 : Int32} (u_h0 : H[h0]? = some (.inr (4, [.ref q0, .int ch0_1]))) : Cm S d 54 [.ref h0, .int x1] (H, z) (.inr (some (.int (t_X5_has x1 ch0_1))), (H, z)) := by
  have G : ∀ x, t_X5_has x1 ch0_1 = x → Go S d 54 (0, [some (.ref h0), some (.int x1)], []) (H, z) (fun _ _ => False) (fun r => r = (.inr (some (.int x)), (H, z))) := by
    intro x h
    unfold t_X5_has at h
    refine go_step (fun _ => ev_run 1 (F' := (1, [some (.ref h0), some (.int x1)], [.int x1])) rfl) ?_
    refine go_if rfl (fun (b1 : x1 < (0 : Int32)) => ?_) (fun (b1 : ¬ (x1 < (0 : Int32))) => ?_)
    · have h := (if_pos b1).symm.trans h
      refine go_step (fun _ => ev_run 1 (F' := (17, [some (.ref h0), some (.int x1)], [.int (0 : Int32)])) rfl) ?_
      cases h
      exact Or.inr ⟨_, ev_ret rfl rfl rfl rfl, rfl⟩
    · have h := (if_neg b1).symm.trans h
      refine go_step (fun _ => ev_run 2 (F' := (6, [some (.ref h0), some (.int x1)], [.ref h0, .int x1])) rfl) ?_
      refine go_step (fun _ => ev_getf rfl u_h0 rfl) ?_
      refine go_icmp rfl (fun (b9 : ch0_1 ≤ x1) => ?_) (fun (b9 : ¬ (ch0_1 ≤ x1)) => ?_)
      · have h := (if_pos b9).symm.trans h
        refine go_step (fun _ => ev_run 1 (F' := (17, [some (.ref h0), some (.int x1)], [.int (0 : Int32)])) rfl) ?_
        cases h
        exact Or.inr ⟨_, ev_ret rfl rfl rfl rfl, rfl⟩
      · have h := (if_neg b9).symm.trans h
        refine go_step (fun _ => ev_run 2 (F' := (17, [some (.ref h0), some (.int x1)], [.int (1 : Int32)])) rfl) ?_
        cases h
        exact Or.inr ⟨_, ev_ret rfl rfl rfl rfl, rfl⟩
  obtain ⟨_, hE, rfl⟩ := go_end (G _ rfl)
  exact hE
theorem b_X5_has (x1 : Int32) (ch0_1 : Int32) : t_X5_has x1 ch0_1 = 0 ∨ t_X5_has x1 ch0_1 = 1 := by
  unfold t_X5_has
  (repeat' split) <;> first | exact Or.inl rfl | exact Or.inr rfl | skip
def q_X5_compareAsText_L14 (x2 : Int32) (mq0 : Nat) (aq0 : Nat → Int32) (mq1 : Nat) (aq1 : Nat → Int32) : Nat → Int32 → Option (Int32 ⊕ Int32)
  | 0, _ => none
  | n + 1, l3 => (if x2 ≤ l3 then (some (Sum.inl l3)) else (if (t_X5_at l3 mq0 aq0) = (t_X5_at l3 mq1 aq1) then (q_X5_compareAsText_L14 x2 mq0 aq0 mq1 aq1 n (l3 + (1 : Int32))) else (some (Sum.inr ((t_X5_at l3 mq0 aq0) - (t_X5_at l3 mq1 aq1))))))
def q_X5_compareAsText (ch0_1 : Int32) (ch1_1 : Int32) (mq0 : Nat) (aq0 : Nat → Int32) (mq1 : Nat) (aq1 : Nat → Int32) : Option Int32 := (xlp (q_X5_compareAsText_L14 (if (t_X5_size ch1_1) < ch0_1 then (t_X5_size ch1_1) else ch0_1) mq0 aq0 mq1 aq1 10000 (0 : Int32)) (fun y1 => (some (ch0_1 - (t_X5_size ch1_1)))) (fun y1 => (some y1)))
theorem L_X5_compareAsText_L14 {S : Nat × (Nat → Int32)} {d : Nat} {z : Bool × Nat × Nat} {h0 h1 q0 q1 : Nat} {ch0_1 : Int32} {ch1_1 : Int32} {x2 : Int32} {mq0 : Nat} {aq0 : Nat → Int32} {mq1 : Nat} {aq1 : Nat → Int32} {H : List xE} (u_h0 : H[h0]? = some (.inr (4, [.ref q0, .int ch0_1]))) (u_h1 : H[h1]? = some (.inr (4, [.ref q1, .int ch1_1]))) (u_q0 : H[q0]? = some (.inl (0, mq0, .inl aq0))) (u_q1 : H[q1]? = some (.inl (0, mq1, .inl aq1))) (hm_q0 : mq0 < 2147483648) (hm_q1 : mq1 < 2147483648) : ∀ (n : Nat) (l3 : Int32) x, q_X5_compareAsText_L14 x2 mq0 aq0 mq1 aq1 n l3 = some x → Go S (d + 1) 61 (14, [some (.ref h0), some (.ref h1), some (.int x2), some (.int l3)], []) (H, z) (fun F' M' => ∃ (m : Int32), x = Sum.inl m ∧ F' = (50, [some (.ref h0), some (.ref h1), none, none], []) ∧ M' = (H, z)) (fun r => ∃ (c : Int32), x = Sum.inr c ∧ r = (.inr (some (.int c)), (H, z))) := by
  intro n
  induction n with
  | zero =>
    intro l3 x h
    unfold q_X5_compareAsText_L14 at h
    cases h
  | succ n ih =>
    intro l3 x h
    unfold q_X5_compareAsText_L14 at h
    refine go_step (fun _ => ev_run 2 (F' := (16, [some (.ref h0), some (.ref h1), some (.int x2), some (.int l3)], [.int x2, .int l3])) rfl) ?_
    refine go_icmp rfl (fun (b16 : x2 ≤ l3) => ?_) (fun (b16 : ¬ (x2 ≤ l3)) => ?_)
    · have h := (if_pos b16).symm.trans h
      refine go_step (fun _ => ev_forget (L' := [some (.ref h0), some (.ref h1), none, none]) (show xleP _ [some (.ref h0), some (.ref h1), some (.int x2), some (.int l3)] from ⟨rfl, ⟨rfl, trivial⟩⟩) rfl) ?_
      cases h
      exact Or.inl ⟨_, _, fun r hr => hr, _, rfl, rfl, rfl⟩
    · have h := (if_neg b16).symm.trans h
      refine go_step (fun _ => ev_run 2 (F' := (21, [some (.ref h0), some (.ref h1), some (.int x2), some (.int l3)], [.int l3, .ref h0])) rfl) ?_
      refine go_step (F1 := (24, [some (.ref h0), some (.ref h1), some (.int x2), some (.int l3)], [.int (t_X5_at l3 mq0 aq0)])) (M1 := (H, z)) (fun _ => ev_callV (x := (.invokevirtual 27, 3, 55, 4, 444, .null)) (as := [.int l3]) (rest := []) rfl rfl u_h0 (C_X5_at (S := S) (d := d) (z := z) (x1 := l3) u_h0 u_q0 hm_q0) rfl) ?_
      refine go_step (fun _ => ev_run 2 (F' := (26, [some (.ref h0), some (.ref h1), some (.int x2), some (.int l3)], [.int l3, .ref h1, .int (t_X5_at l3 mq0 aq0)])) rfl) ?_
      refine go_step (F1 := (29, [some (.ref h0), some (.ref h1), some (.int x2), some (.int l3)], [.int (t_X5_at l3 mq1 aq1), .int (t_X5_at l3 mq0 aq0)])) (M1 := (H, z)) (fun _ => ev_callV (x := (.invokevirtual 27, 3, 55, 4, 444, .null)) (as := [.int l3]) (rest := [.int (t_X5_at l3 mq0 aq0)]) rfl rfl u_h1 (C_X5_at (S := S) (d := d) (z := z) (x1 := l3) u_h1 u_q1 hm_q1) rfl) ?_
      refine go_icmp rfl (fun (b29 : (t_X5_at l3 mq0 aq0) = (t_X5_at l3 mq1 aq1)) => ?_) (fun (b29 : ¬ ((t_X5_at l3 mq0 aq0) = (t_X5_at l3 mq1 aq1))) => ?_)
      · have h := (if_pos b29).symm.trans h
        refine go_step (fun _ => ev_run 2 (F' := (14, [some (.ref h0), some (.ref h1), some (.int x2), some (.int (l3 + (1 : Int32)))], [])) rfl) ?_
        exact ih (l3 + (1 : Int32)) _ h
      · have h := (if_neg b29).symm.trans h
        refine go_step (fun _ => ev_run 2 (F' := (34, [some (.ref h0), some (.ref h1), some (.int x2), some (.int l3)], [.int l3, .ref h0])) rfl) ?_
        refine go_step (F1 := (37, [some (.ref h0), some (.ref h1), some (.int x2), some (.int l3)], [.int (t_X5_at l3 mq0 aq0)])) (M1 := (H, z)) (fun _ => ev_callV (x := (.invokevirtual 27, 3, 55, 4, 444, .null)) (as := [.int l3]) (rest := []) rfl rfl u_h0 (C_X5_at (S := S) (d := d) (z := z) (x1 := l3) u_h0 u_q0 hm_q0) rfl) ?_
        refine go_step (fun _ => ev_run 2 (F' := (39, [some (.ref h0), some (.ref h1), some (.int x2), some (.int l3)], [.int l3, .ref h1, .int (t_X5_at l3 mq0 aq0)])) rfl) ?_
        refine go_step (F1 := (42, [some (.ref h0), some (.ref h1), some (.int x2), some (.int l3)], [.int (t_X5_at l3 mq1 aq1), .int (t_X5_at l3 mq0 aq0)])) (M1 := (H, z)) (fun _ => ev_callV (x := (.invokevirtual 27, 3, 55, 4, 444, .null)) (as := [.int l3]) (rest := [.int (t_X5_at l3 mq0 aq0)]) rfl rfl u_h1 (C_X5_at (S := S) (d := d) (z := z) (x1 := l3) u_h1 u_q1 hm_q1) rfl) ?_
        refine go_step (fun _ => ev_run 1 (F' := (43, [some (.ref h0), some (.ref h1), some (.int x2), some (.int l3)], [.int ((t_X5_at l3 mq0 aq0) - (t_X5_at l3 mq1 aq1))])) rfl) ?_
        cases h
        exact Or.inr ⟨_, ev_ret rfl rfl rfl rfl, _, rfl, rfl⟩
theorem C_X5_compareAsText {S : Nat × (Nat → Int32)} {d : Nat} {H : List xE} {z : Bool × Nat × Nat} {h0 h1 q0 q1 : Nat} {ch0_1 : Int32} {ch1_1 : Int32} {mq0 : Nat} {aq0 : Nat → Int32} {mq1 : Nat} {aq1 : Nat → Int32} (u_h0 : H[h0]? = some (.inr (4, [.ref q0, .int ch0_1]))) (u_h1 : H[h1]? = some (.inr (4, [.ref q1, .int ch1_1]))) (u_q0 : H[q0]? = some (.inl (0, mq0, .inl aq0))) (u_q1 : H[q1]? = some (.inl (0, mq1, .inl aq1))) (hm_q0 : mq0 < 2147483648) (hm_q1 : mq1 < 2147483648) {x : Int32} (h : q_X5_compareAsText ch0_1 ch1_1 mq0 aq0 mq1 aq1 = some x) : Cm S (d + 1) 61 [.ref h0, .ref h1] (H, z) (.inr (some (.int x)), (H, z)) := by
  have G : Go S (d + 1) 61 (0, [some (.ref h0), some (.ref h1), none, none], []) (H, z) (fun _ _ => False) (fun r => r = (.inr (some (.int x)), (H, z))) := by
    unfold q_X5_compareAsText at h
    refine go_step (fun _ => ev_run 1 (F' := (1, [some (.ref h0), some (.ref h1), none, none], [.ref h0])) rfl) ?_
    refine go_step (fun _ => ev_getf rfl u_h0 rfl) ?_
    refine go_step (fun _ => ev_run 1 (F' := (5, [some (.ref h0), some (.ref h1), none, none], [.ref h1, .int ch0_1])) rfl) ?_
    refine go_step (F1 := (8, [some (.ref h0), some (.ref h1), none, none], [.int (t_X5_size ch1_1), .int ch0_1])) (M1 := (H, z)) (fun _ => ev_callV (x := (.invokevirtual 41, 3, 53, 4, 1086, .null)) (as := []) (rest := [.int ch0_1]) rfl rfl u_h1 (C_X5_size (S := S) (d := d) (z := z) u_h1) rfl) ?_
    refine go_step (fun _ => ev_run 4 (F' := (14, [some (.ref h0), some (.ref h1), some (.int (if (t_X5_size ch1_1) < ch0_1 then (t_X5_size ch1_1) else ch0_1)), some (.int (0 : Int32))], [])) rfl) ?_
    rcases okl h with ⟨y1, hy1, h⟩ | ⟨y1, hy1, h⟩
    · rcases L_X5_compareAsText_L14 (S := S) (d := d) (z := z) (x2 := (if (t_X5_size ch1_1) < ch0_1 then (t_X5_size ch1_1) else ch0_1)) u_h0 u_h1 u_q0 u_q1 hm_q0 hm_q1 10000 (0 : Int32) _ hy1 with ⟨_, _, hr2, _, hx3, rfl, rfl⟩ | ⟨_, _, _, hx3, _⟩
      · cases hx3
        refine go_step hr2 ?_
        refine go_step (fun _ => ev_run 1 (F' := (51, [some (.ref h0), some (.ref h1), none, none], [.ref h0])) rfl) ?_
        refine go_step (fun _ => ev_getf rfl u_h0 rfl) ?_
        refine go_step (fun _ => ev_run 1 (F' := (55, [some (.ref h0), some (.ref h1), none, none], [.ref h1, .int ch0_1])) rfl) ?_
        refine go_step (F1 := (58, [some (.ref h0), some (.ref h1), none, none], [.int (t_X5_size ch1_1), .int ch0_1])) (M1 := (H, z)) (fun _ => ev_callV (x := (.invokevirtual 41, 3, 53, 4, 1086, .null)) (as := []) (rest := [.int ch0_1]) rfl rfl u_h1 (C_X5_size (S := S) (d := d) (z := z) u_h1) rfl) ?_
        refine go_step (fun _ => ev_run 1 (F' := (59, [some (.ref h0), some (.ref h1), none, none], [.int (ch0_1 - (t_X5_size ch1_1))])) rfl) ?_
        cases h
        exact Or.inr ⟨_, ev_ret rfl rfl rfl rfl, rfl⟩
      · cases hx3
    · rcases L_X5_compareAsText_L14 (S := S) (d := d) (z := z) (x2 := (if (t_X5_size ch1_1) < ch0_1 then (t_X5_size ch1_1) else ch0_1)) u_h0 u_h1 u_q0 u_q1 hm_q0 hm_q1 10000 (0 : Int32) _ hy1 with ⟨_, _, _, _, hx3, _⟩ | ⟨_, hE5, _, hx3, rfl⟩
      · cases hx3
      · cases hx3
        cases h
        exact Or.inr ⟨_, hE5, rfl⟩
  obtain ⟨_, hE, rfl⟩ := go_end G
  exact hE

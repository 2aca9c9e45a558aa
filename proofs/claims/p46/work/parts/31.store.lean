/-! Functions of the methods, and that the small machine does what they say: written by a program (wip/whole/dec). -/
def t_X3_hasSome (c3_2 : Int32) : Int32 := (if c3_2 ≤ (0 : Int32) then (0 : Int32) else (1 : Int32))
theorem C_X3_hasSome {S : Nat × (Nat → Int32)} {d : Nat} {H : List xE} {z : Bool × Nat × Nat} {c3_1 : Int32} {c3_2 : Int32} (u_3 : H[3]? = some (.inr (2, [.ref 4, .int c3_1, .int c3_2]))) : Cm S d 36 [.ref 3] (H, z) (.inr (some (.int (t_X3_hasSome c3_2))), (H, z)) := by
  have G : ∀ x, t_X3_hasSome c3_2 = x → Go S d 36 (0, [some (.ref 3)], []) (H, z) (fun _ _ => False) (fun r => r = (.inr (some (.int x)), (H, z))) := by
    intro x h
    unfold t_X3_hasSome at h
    refine go_step (fun _ => ev_run 1 (F' := (1, [some (.ref 3)], [.ref 3])) rfl) ?_
    refine go_step (fun _ => ev_getf rfl u_3 rfl) ?_
    refine go_if rfl (fun (b4 : c3_2 ≤ (0 : Int32)) => ?_) (fun (b4 : ¬ (c3_2 ≤ (0 : Int32))) => ?_)
    · have h := (if_pos b4).symm.trans h
      refine go_step (fun _ => ev_run 1 (F' := (12, [some (.ref 3)], [.int (0 : Int32)])) rfl) ?_
      cases h
      exact Or.inr ⟨_, ev_ret rfl rfl rfl rfl, rfl⟩
    · have h := (if_neg b4).symm.trans h
      refine go_step (fun _ => ev_run 2 (F' := (12, [some (.ref 3)], [.int (1 : Int32)])) rfl) ?_
      cases h
      exact Or.inr ⟨_, ev_ret rfl rfl rfl rfl, rfl⟩
  obtain ⟨_, hE, rfl⟩ := go_end (G _ rfl)
  exact hE
theorem b_X3_hasSome (c3_2 : Int32) : t_X3_hasSome c3_2 = 0 ∨ t_X3_hasSome c3_2 = 1 := by
  unfold t_X3_hasSome
  (repeat' split) <;> first | exact Or.inl rfl | exact Or.inr rfl | skip
def q_X8_write_L36 (x1 : Int32) (x3 : Int32) (ch0_0 : Int32) (mv0 : Nat) (mq2 : Nat) (aq2 : Nat → Int32) : Nat → Int32 → (Nat → Int32) → Option (Int32 × (Nat → Int32))
  | 0, _, _ => none
  | n + 1, l4, av0 => (if x3 ≤ l4 then (some (l4, av0)) else (if (nI mv0) ≤ ((x1 * ch0_0) + l4) then (q_X8_write_L36 x1 x3 ch0_0 mv0 mq2 aq2 n (l4 + (1 : Int32)) av0) else (if xin ((x1 * ch0_0) + l4) mv0 = true then (q_X8_write_L36 x1 x3 ch0_0 mv0 mq2 aq2 n (l4 + (1 : Int32)) (upd av0 ((x1 * ch0_0) + l4).toNatClampNeg (t_X5_at l4 mq2 aq2))) else none)))
def q_X8_write (x1 : Int32) (ch0_0 : Int32) (ms0 : Nat) (as0 : Nat → Int32) (ch2_1 : Int32) (mv0 : Nat) (av0 : Nat → Int32) (mq2 : Nat) (aq2 : Nat → Int32) : Option ((Nat → Int32) × (Nat → Int32)) := (if x1 < (0 : Int32) then (some (as0, av0)) else (if x1 < (nI ms0) then (if xin x1 ms0 = true then ((q_X8_write_L36 x1 (if ch0_0 < (t_X5_size ch2_1) then ch0_0 else (t_X5_size ch2_1)) ch0_0 mv0 mq2 aq2 10000 (0 : Int32) av0).bind (fun y2 => (some ((upd as0 x1.toNatClampNeg (if ch0_0 < (t_X5_size ch2_1) then ch0_0 else (t_X5_size ch2_1))), y2.2)))) else none) else (some (as0, av0))))
theorem L_X8_write_L36 {S : Nat × (Nat → Int32)} {d : Nat} {z : Bool × Nat × Nat} {h0 s0 h2 v0 q2 : Nat} {ms0 : Nat} {as0 : Nat → Int32} {ch2_1 : Int32} {x1 : Int32} {x3 : Int32} {ch0_0 : Int32} {mv0 : Nat} {mq2 : Nat} {aq2 : Nat → Int32} {H0 : List xE} (u_h0 : H0[h0]? = some (.inr (7, [.int ch0_0, .ref v0, .ref s0]))) (u_s0 : H0[s0]? = some (.inl (0, ms0, .inl as0))) (u_h2 : H0[h2]? = some (.inr (4, [.ref q2, .int ch2_1]))) (u_q2 : H0[q2]? = some (.inl (0, mq2, .inl aq2))) (ne_h0_s0 : h0 ≠ s0) (ne_h0_v0 : h0 ≠ v0) (ne_h2_s0 : h2 ≠ s0) (ne_h2_v0 : h2 ≠ v0) (ne_q2_s0 : q2 ≠ s0) (ne_q2_v0 : q2 ≠ v0) (ne_s0_v0 : s0 ≠ v0) (hm_q2 : mq2 < 2147483648) : ∀ (n : Nat) (l4 : Int32) (av0 : Nat → Int32) (H : List xE), xfr [v0] H0 H → H[v0]? = some (.inl (0, mv0, .inl av0)) → ∀ x, q_X8_write_L36 x1 x3 ch0_0 mv0 mq2 aq2 n l4 av0 = some x → Go S (d + 1) 79 (36, [some (.ref h0), some (.int x1), some (.ref h2), some (.int x3), some (.int l4), none], []) (H, z) (fun F' M' => ∃ H' : List xE, F' = (82, [none, none, none, none, none, none], []) ∧ M' = (H', z) ∧ H'[v0]? = some (.inl (0, mv0, .inl x.2)) ∧ xfr [v0] H0 H') (fun _ => False) := by
  intro n
  induction n with
  | zero =>
    intro l4 av0 H fr e_v0 x h
    unfold q_X8_write_L36 at h
    cases h
  | succ n ih =>
    intro l4 av0 H fr e_v0 x h
    unfold q_X8_write_L36 at h
    refine go_step (fun _ => ev_run 2 (F' := (39, [some (.ref h0), some (.int x1), some (.ref h2), some (.int x3), some (.int l4), none], [.int x3, .int l4])) rfl) ?_
    refine go_icmp rfl (fun (b39 : x3 ≤ l4) => ?_) (fun (b39 : ¬ (x3 ≤ l4)) => ?_)
    · have h := (if_pos b39).symm.trans h
      refine go_step (fun _ => ev_forget (L' := [none, none, none, none, none, none]) (show xleP _ [some (.ref h0), some (.int x1), some (.ref h2), some (.int x3), some (.int l4), none] from trivial) rfl) ?_
      cases h
      exact Or.inl ⟨_, _, fun r hr => hr, H, rfl, rfl, e_v0, fr⟩
    · have h := (if_neg b39).symm.trans h
      refine go_step (fun _ => ev_run 2 (F' := (44, [some (.ref h0), some (.int x1), some (.ref h2), some (.int x3), some (.int l4), none], [.ref h0, .int x1])) rfl) ?_
      refine go_step (fun _ => ev_getf rfl ((fr h0 (xo_c (Ne.symm ne_h0_v0) rfl)).trans u_h0) rfl) ?_
      refine go_step (fun _ => ev_run 6 (F' := (56, [some (.ref h0), some (.int x1), some (.ref h2), some (.int x3), some (.int l4), some (.int ((x1 * ch0_0) + l4))], [.ref h0, .int ((x1 * ch0_0) + l4)])) rfl) ?_
      refine go_step (fun _ => ev_getf rfl ((fr h0 (xo_c (Ne.symm ne_h0_v0) rfl)).trans u_h0) rfl) ?_
      refine go_step (fun _ => ev_alen rfl e_v0 rfl) ?_
      refine go_icmp rfl (fun (b60 : (nI mv0) ≤ ((x1 * ch0_0) + l4)) => ?_) (fun (b60 : ¬ ((nI mv0) ≤ ((x1 * ch0_0) + l4))) => ?_)
      · have h := (if_pos b60).symm.trans h
        refine go_step (fun _ => ev_run 2 (F' := (36, [some (.ref h0), some (.int x1), some (.ref h2), some (.int x3), some (.int (l4 + (1 : Int32))), some (.int ((x1 * ch0_0) + l4))], [])) rfl) ?_
        refine go_step (fun _ => ev_forget (L' := [some (.ref h0), some (.int x1), some (.ref h2), some (.int x3), some (.int (l4 + (1 : Int32))), none]) (show xleP _ [some (.ref h0), some (.int x1), some (.ref h2), some (.int x3), some (.int (l4 + (1 : Int32))), some (.int ((x1 * ch0_0) + l4))] from ⟨rfl, ⟨rfl, ⟨rfl, ⟨rfl, ⟨rfl, trivial⟩⟩⟩⟩⟩) rfl) ?_
        exact ih (l4 + (1 : Int32)) av0 H fr e_v0 _ h
      · have h := (if_neg b60).symm.trans h
        refine go_step (fun _ => ev_run 1 (F' := (64, [some (.ref h0), some (.int x1), some (.ref h2), some (.int x3), some (.int l4), some (.int ((x1 * ch0_0) + l4))], [.ref h0])) rfl) ?_
        refine go_step (fun _ => ev_getf rfl ((fr h0 (xo_c (Ne.symm ne_h0_v0) rfl)).trans u_h0) rfl) ?_
        refine go_step (fun _ => ev_run 3 (F' := (72, [some (.ref h0), some (.int x1), some (.ref h2), some (.int x3), some (.int l4), some (.int ((x1 * ch0_0) + l4))], [.int l4, .ref h2, .int ((x1 * ch0_0) + l4), .ref v0])) rfl) ?_
        refine go_step (F1 := (75, [some (.ref h0), some (.int x1), some (.ref h2), some (.int x3), some (.int l4), some (.int ((x1 * ch0_0) + l4))], [.int (t_X5_at l4 mq2 aq2), .int ((x1 * ch0_0) + l4), .ref v0])) (M1 := (H, z)) (fun _ => ev_callV (x := (.invokevirtual 35, 3, 55, 4, 428, .null)) (as := [.int l4]) (rest := [.int ((x1 * ch0_0) + l4), .ref v0]) rfl rfl ((fr h2 (xo_c (Ne.symm ne_h2_v0) rfl)).trans u_h2) (C_X5_at (S := S) (d := d) (z := z) (x1 := l4) ((fr h2 (xo_c (Ne.symm ne_h2_v0) rfl)).trans u_h2) ((fr q2 (xo_c (Ne.symm ne_q2_v0) rfl)).trans u_q2) hm_q2) rfl) ?_
        obtain ⟨g75, h⟩ := okg h
        refine go_iast rfl e_v0 g75 (fun H1 (eH1 : H1[v0]? = some (.inl (0, mv0, .inl (upd av0 ((x1 * ch0_0) + l4).toNatClampNeg (t_X5_at l4 mq2 aq2))))) fH1 => ?_)
        refine go_step (fun _ => ev_run 2 (F' := (36, [some (.ref h0), some (.int x1), some (.ref h2), some (.int x3), some (.int (l4 + (1 : Int32))), some (.int ((x1 * ch0_0) + l4))], [])) rfl) ?_
        refine go_step (fun _ => ev_forget (L' := [some (.ref h0), some (.int x1), some (.ref h2), some (.int x3), some (.int (l4 + (1 : Int32))), none]) (show xleP _ [some (.ref h0), some (.int x1), some (.ref h2), some (.int x3), some (.int (l4 + (1 : Int32))), some (.int ((x1 * ch0_0) + l4))] from ⟨rfl, ⟨rfl, ⟨rfl, ⟨rfl, ⟨rfl, trivial⟩⟩⟩⟩⟩) rfl) ?_
        exact ih (l4 + (1 : Int32)) (upd av0 ((x1 * ch0_0) + l4).toNatClampNeg (t_X5_at l4 mq2 aq2)) H1 (xfr_t fr (xs_c xm_h rfl) fH1) eH1 _ h
theorem C_X8_write {S : Nat × (Nat → Int32)} {d : Nat} {H : List xE} {z : Bool × Nat × Nat} {h0 s0 h2 v0 q2 : Nat} {ch0_0 : Int32} {ms0 : Nat} {as0 : Nat → Int32} {ch2_1 : Int32} {mv0 : Nat} {av0 : Nat → Int32} {mq2 : Nat} {aq2 : Nat → Int32} {x1 : Int32} (u_h0 : H[h0]? = some (.inr (7, [.int ch0_0, .ref v0, .ref s0]))) (u_s0 : H[s0]? = some (.inl (0, ms0, .inl as0))) (u_h2 : H[h2]? = some (.inr (4, [.ref q2, .int ch2_1]))) (u_v0 : H[v0]? = some (.inl (0, mv0, .inl av0))) (u_q2 : H[q2]? = some (.inl (0, mq2, .inl aq2))) (ne_h0_s0 : h0 ≠ s0) (ne_h0_v0 : h0 ≠ v0) (ne_h2_s0 : h2 ≠ s0) (ne_h2_v0 : h2 ≠ v0) (ne_q2_s0 : q2 ≠ s0) (ne_q2_v0 : q2 ≠ v0) (ne_s0_v0 : s0 ≠ v0) (hm_q2 : mq2 < 2147483648) {x : ((Nat → Int32) × (Nat → Int32))} (h : q_X8_write x1 ch0_0 ms0 as0 ch2_1 mv0 av0 mq2 aq2 = some x) : ∃ H' : List xE, Cm S (d + 1) 79 [.ref h0, .int x1, .ref h2] (H, z) (.inr none, (H', z)) ∧ H'[s0]? = some (.inl (0, ms0, .inl x.1)) ∧ H'[v0]? = some (.inl (0, mv0, .inl x.2)) ∧ xfr [s0, v0] H H' := by
  have G : Go S (d + 1) 79 (0, [some (.ref h0), some (.int x1), some (.ref h2), none, none, none], []) (H, z) (fun _ _ => False) (fun r => ∃ H' : List xE, r = (.inr none, (H', z)) ∧ H'[s0]? = some (.inl (0, ms0, .inl x.1)) ∧ H'[v0]? = some (.inl (0, mv0, .inl x.2)) ∧ xfr [s0, v0] H H') := by
    unfold q_X8_write at h
    refine go_step (fun _ => ev_run 1 (F' := (1, [some (.ref h0), some (.int x1), some (.ref h2), none, none, none], [.int x1])) rfl) ?_
    refine go_if rfl (fun (b1 : x1 < (0 : Int32)) => ?_) (fun (b1 : ¬ (x1 < (0 : Int32))) => ?_)
    · have h := (if_pos b1).symm.trans h
      cases h
      exact Or.inr ⟨_, ev_ret rfl rfl rfl rfl, H, rfl, u_s0, u_v0, xfr_refl⟩
    · have h := (if_neg b1).symm.trans h
      refine go_step (fun _ => ev_run 2 (F' := (6, [some (.ref h0), some (.int x1), some (.ref h2), none, none, none], [.ref h0, .int x1])) rfl) ?_
      refine go_step (fun _ => ev_getf rfl u_h0 rfl) ?_
      refine go_step (fun _ => ev_alen rfl u_s0 rfl) ?_
      refine go_icmp rfl (fun (b10 : x1 < (nI ms0)) => ?_) (fun (b10 : ¬ (x1 < (nI ms0))) => ?_)
      · have h := (if_pos b10).symm.trans h
        refine go_step (fun _ => ev_run 1 (F' := (15, [some (.ref h0), some (.int x1), some (.ref h2), none, none, none], [.ref h2])) rfl) ?_
        refine go_step (F1 := (18, [some (.ref h0), some (.int x1), some (.ref h2), none, none, none], [.int (t_X5_size ch2_1)])) (M1 := (H, z)) (fun _ => ev_callV (x := (.invokevirtual 26, 3, 53, 4, 424, .null)) (as := []) (rest := []) rfl rfl u_h2 (C_X5_size (S := S) (d := d) (z := z) u_h2) rfl) ?_
        refine go_step (fun _ => ev_run 1 (F' := (19, [some (.ref h0), some (.int x1), some (.ref h2), none, none, none], [.ref h0, .int (t_X5_size ch2_1)])) rfl) ?_
        refine go_step (fun _ => ev_getf rfl u_h0 rfl) ?_
        refine go_step (fun _ => ev_run 3 (F' := (27, [some (.ref h0), some (.int x1), some (.ref h2), some (.int (if ch0_0 < (t_X5_size ch2_1) then ch0_0 else (t_X5_size ch2_1))), none, none], [.ref h0])) rfl) ?_
        refine go_step (fun _ => ev_getf rfl u_h0 rfl) ?_
        refine go_step (fun _ => ev_run 2 (F' := (32, [some (.ref h0), some (.int x1), some (.ref h2), some (.int (if ch0_0 < (t_X5_size ch2_1) then ch0_0 else (t_X5_size ch2_1))), none, none], [.int (if ch0_0 < (t_X5_size ch2_1) then ch0_0 else (t_X5_size ch2_1)), .int x1, .ref s0])) rfl) ?_
        obtain ⟨g32, h⟩ := okg h
        refine go_iast rfl u_s0 g32 (fun H1 (eH1 : H1[s0]? = some (.inl (0, ms0, .inl (upd as0 x1.toNatClampNeg (if ch0_0 < (t_X5_size ch2_1) then ch0_0 else (t_X5_size ch2_1)))))) fH1 => ?_)
        refine go_step (fun _ => ev_run 2 (F' := (36, [some (.ref h0), some (.int x1), some (.ref h2), some (.int (if ch0_0 < (t_X5_size ch2_1) then ch0_0 else (t_X5_size ch2_1))), some (.int (0 : Int32)), none], [])) rfl) ?_
        obtain ⟨y2, hy2, h⟩ := okb h
        obtain ⟨_, _, hr4, H3, rfl, rfl, eH3_v0, fH3⟩ := go_nr (L_X8_write_L36 (S := S) (d := d) (z := z) (x1 := x1) (x3 := (if ch0_0 < (t_X5_size ch2_1) then ch0_0 else (t_X5_size ch2_1))) ((fH1 h0 (xo_c (Ne.symm ne_h0_s0) rfl)).trans u_h0) eH1 ((fH1 h2 (xo_c (Ne.symm ne_h2_s0) rfl)).trans u_h2) ((fH1 q2 (xo_c (Ne.symm ne_q2_s0) rfl)).trans u_q2) ne_h0_s0 ne_h0_v0 ne_h2_s0 ne_h2_v0 ne_q2_s0 ne_q2_v0 ne_s0_v0 hm_q2 10000 (0 : Int32) av0 H1 xfr_refl ((fH1 v0 (xo_c ne_s0_v0 rfl)).trans u_v0) _ hy2)
        refine go_step hr4 ?_
        cases h
        exact Or.inr ⟨_, ev_ret rfl rfl rfl rfl, H3, rfl, ((fH3 s0 (xo_c (Ne.symm ne_s0_v0) rfl)).trans eH1), eH3_v0, (xfr_t (xfr_t xfr_refl (xs_c xm_h rfl) fH1) (xs_c (xm_t xm_h) rfl) fH3)⟩
      · have h := (if_neg b10).symm.trans h
        cases h
        exact Or.inr ⟨_, ev_ret rfl rfl rfl rfl, H, rfl, u_s0, u_v0, xfr_refl⟩
  obtain ⟨_, hE, H', rfl, hrest⟩ := go_end G
  exact ⟨H', hE, hrest⟩
def q_X3_keep (c3_1 : Int32) (c3_2 : Int32) (c4_0 : Int32) (c1_1 : Int32) (a6 : Nat → Int32) (a5 : Nat → Int32) (a2 : Nat → Int32) : Option (Int32 × Int32 × (Nat → Int32) × (Nat → Int32)) := ((q_X8_write c3_1 c4_0 10 a6 c1_1 640 a5 64 a2).bind (fun y1 => (some (((c3_1 + (1 : Int32)) - (c3_1 + (1 : Int32)) / (10 : Int32) * (10 : Int32)), (if (10 : Int32) < (c3_2 + (1 : Int32)) then (10 : Int32) else (c3_2 + (1 : Int32))), y1.1, y1.2))))
theorem C_X3_keep {S : Nat × (Nat → Int32)} {d : Nat} {H : List xE} {z : Bool × Nat × Nat} {c3_1 : Int32} {c3_2 : Int32} {c4_0 : Int32} {c1_1 : Int32} {a6 : Nat → Int32} {a5 : Nat → Int32} {a2 : Nat → Int32} (u_3 : H[3]? = some (.inr (2, [.ref 4, .int c3_1, .int c3_2]))) (u_4 : H[4]? = some (.inr (7, [.int c4_0, .ref 5, .ref 6]))) (u_1 : H[1]? = some (.inr (4, [.ref 2, .int c1_1]))) (u_6 : H[6]? = some (.inl (0, 10, .inl a6))) (u_5 : H[5]? = some (.inl (0, 640, .inl a5))) (u_2 : H[2]? = some (.inl (0, 64, .inl a2))) {x : (Int32 × Int32 × (Nat → Int32) × (Nat → Int32))} (h : q_X3_keep c3_1 c3_2 c4_0 c1_1 a6 a5 a2 = some x) : ∃ H' : List xE, Cm S (d + 2) 37 [.ref 3, .ref 1] (H, z) (.inr none, (H', z)) ∧ H'[3]? = some (.inr (2, [.ref 4, .int x.1, .int x.2.1])) ∧ H'[6]? = some (.inl (0, 10, .inl x.2.2.1)) ∧ H'[5]? = some (.inl (0, 640, .inl x.2.2.2)) ∧ xfr [3, 6, 5] H H' := by
  have G : Go S (d + 2) 37 (0, [some (.ref 3), some (.ref 1)], []) (H, z) (fun _ _ => False) (fun r => ∃ H' : List xE, r = (.inr none, (H', z)) ∧ H'[3]? = some (.inr (2, [.ref 4, .int x.1, .int x.2.1])) ∧ H'[6]? = some (.inl (0, 10, .inl x.2.2.1)) ∧ H'[5]? = some (.inl (0, 640, .inl x.2.2.2)) ∧ xfr [3, 6, 5] H H') := by
    unfold q_X3_keep at h
    refine go_step (fun _ => ev_run 1 (F' := (1, [some (.ref 3), some (.ref 1)], [.ref 3])) rfl) ?_
    refine go_step (fun _ => ev_getf rfl u_3 rfl) ?_
    refine go_step (fun _ => ev_run 1 (F' := (5, [some (.ref 3), some (.ref 1)], [.ref 3, .ref 4])) rfl) ?_
    refine go_step (fun _ => ev_getf rfl u_3 rfl) ?_
    refine go_step (fun _ => ev_run 1 (F' := (9, [some (.ref 3), some (.ref 1)], [.ref 1, .int c3_1, .ref 4])) rfl) ?_
    obtain ⟨y1, hy1, h⟩ := okb h
    obtain ⟨H2, hCH2, eH2_6, eH2_5, fH2⟩ := C_X8_write (S := S) (d := d) (z := z) (x1 := c3_1) u_4 u_6 u_1 u_5 u_2 (nb rfl) (nb rfl) (nb rfl) (nb rfl) (nb rfl) (nb rfl) (nb rfl) (by decide) hy1
    refine go_step (F1 := (12, [some (.ref 3), some (.ref 1)], [])) (M1 := (H2, z)) (fun _ => ev_callV (x := (.invokevirtual 27, 3, 79, 7, 420, .null)) (as := [.int c3_1, .ref 1]) (rest := []) rfl rfl u_4 hCH2 rfl) ?_
    refine go_step (fun _ => ev_run 2 (F' := (14, [some (.ref 3), some (.ref 1)], [.ref 3, .ref 3])) rfl) ?_
    refine go_step (fun _ => ev_getf rfl ((fH2 3 rfl).trans u_3) rfl) ?_
    refine go_step (fun _ => ev_run 3 (F' := (21, [some (.ref 3), some (.ref 1)], [.int (10 : Int32), .int (c3_1 + (1 : Int32)), .ref 3])) rfl) ?_
    refine go_step (fun _ => ev_rem rfl (by decide)) ?_
    refine go_putf rfl ((fH2 3 rfl).trans u_3) rfl (fun H3 (eH3 : H3[3]? = some (.inr (2, [.ref 4, .int ((c3_1 + (1 : Int32)) - (c3_1 + (1 : Int32)) / (10 : Int32) * (10 : Int32)), .int c3_2]))) fH3 => ?_)
    refine go_step (fun _ => ev_run 2 (F' := (27, [some (.ref 3), some (.ref 1)], [.ref 3, .ref 3])) rfl) ?_
    refine go_step (fun _ => ev_getf rfl eH3 rfl) ?_
    refine go_step (fun _ => ev_run 4 (F' := (37, [some (.ref 3), some (.ref 1)], [.int (if (10 : Int32) < (c3_2 + (1 : Int32)) then (10 : Int32) else (c3_2 + (1 : Int32))), .ref 3])) rfl) ?_
    refine go_putf rfl eH3 rfl (fun H4 (eH4 : H4[3]? = some (.inr (2, [.ref 4, .int ((c3_1 + (1 : Int32)) - (c3_1 + (1 : Int32)) / (10 : Int32) * (10 : Int32)), .int (if (10 : Int32) < (c3_2 + (1 : Int32)) then (10 : Int32) else (c3_2 + (1 : Int32)))]))) fH4 => ?_)
    cases h
    exact Or.inr ⟨_, ev_ret rfl rfl rfl rfl, H4, rfl, eH4, ((fH4 6 rfl).trans ((fH3 6 rfl).trans eH2_6)), ((fH4 5 rfl).trans ((fH3 5 rfl).trans eH2_5)), (xfr_t (xfr_t (xfr_t xfr_refl rfl fH2) rfl fH3) rfl fH4)⟩
  obtain ⟨_, hE, H', rfl, hrest⟩ := go_end G
  exact ⟨H', hE, hrest⟩
def q_X8_read_L20 (x1 : Int32) (ch0_0 : Int32) (ms0 : Nat) (as0 : Nat → Int32) (mv0 : Nat) (av0 : Nat → Int32) (mq2 : Nat) : Nat → Int32 → Int32 → (Nat → Int32) → Option (Int32 × Int32 × (Nat → Int32))
  | 0, _, _, _ => none
  | n + 1, l3, ch2_1, aq2 => (if xin x1 ms0 = true then (if (as0 x1.toNatClampNeg) ≤ l3 then (some (l3, ch2_1, aq2)) else (if (nI mv0) ≤ ((x1 * ch0_0) + l3) then (q_X8_read_L20 x1 ch0_0 ms0 as0 mv0 av0 mq2 n (l3 + (1 : Int32)) ch2_1 aq2) else (if xin ((x1 * ch0_0) + l3) mv0 = true then ((q_X5_append (av0 ((x1 * ch0_0) + l3).toNatClampNeg) ch2_1 mq2 aq2).bind (fun y1 => (q_X8_read_L20 x1 ch0_0 ms0 as0 mv0 av0 mq2 n (l3 + (1 : Int32)) y1.1 y1.2))) else none))) else none)
def q_X8_read (x1 : Int32) (ch0_0 : Int32) (ms0 : Nat) (as0 : Nat → Int32) (mv0 : Nat) (av0 : Nat → Int32) (mq2 : Nat) (aq2 : Nat → Int32) : Option (Int32 × (Nat → Int32)) := (if x1 < (0 : Int32) then (some ((t_X5_empty), aq2)) else (if x1 < (nI ms0) then ((q_X8_read_L20 x1 ch0_0 ms0 as0 mv0 av0 mq2 10000 (0 : Int32) (t_X5_empty) aq2).bind (fun y2 => (some (y2.2.1, y2.2.2)))) else (some ((t_X5_empty), aq2))))
theorem L_X8_read_L20 {S : Nat × (Nat → Int32)} {d : Nat} {z : Bool × Nat × Nat} {h2 h0 s0 v0 q2 : Nat} {x1 : Int32} {ch0_0 : Int32} {ms0 : Nat} {as0 : Nat → Int32} {mv0 : Nat} {av0 : Nat → Int32} {mq2 : Nat} {H0 : List xE} (u_h0 : H0[h0]? = some (.inr (7, [.int ch0_0, .ref v0, .ref s0]))) (u_s0 : H0[s0]? = some (.inl (0, ms0, .inl as0))) (u_v0 : H0[v0]? = some (.inl (0, mv0, .inl av0))) (ne_h0_h2 : h0 ≠ h2) (ne_h0_q2 : h0 ≠ q2) (ne_h2_q2 : h2 ≠ q2) (ne_h2_s0 : h2 ≠ s0) (ne_h2_v0 : h2 ≠ v0) (ne_q2_s0 : q2 ≠ s0) (ne_q2_v0 : q2 ≠ v0) (hm_q2 : mq2 < 2147483648) : ∀ (n : Nat) (l3 : Int32) (ch2_1 : Int32) (aq2 : Nat → Int32) (H : List xE), xfr [h2, q2] H0 H → H[h2]? = some (.inr (4, [.ref q2, .int ch2_1])) → H[q2]? = some (.inl (0, mq2, .inl aq2)) → ∀ x, q_X8_read_L20 x1 ch0_0 ms0 as0 mv0 av0 mq2 n l3 ch2_1 aq2 = some x → Go S (d + 3) 80 (20, [some (.ref h0), some (.int x1), some (.ref h2), some (.int l3), none], []) (H, z) (fun F' M' => ∃ H' : List xE, F' = (67, [none, none, none, none, none], []) ∧ M' = (H', z) ∧ H'[h2]? = some (.inr (4, [.ref q2, .int x.2.1])) ∧ H'[q2]? = some (.inl (0, mq2, .inl x.2.2)) ∧ xfr [h2, q2] H0 H') (fun _ => False) := by
  intro n
  induction n with
  | zero =>
    intro l3 ch2_1 aq2 H fr e_h2 e_q2 x h
    unfold q_X8_read_L20 at h
    cases h
  | succ n ih =>
    intro l3 ch2_1 aq2 H fr e_h2 e_q2 x h
    unfold q_X8_read_L20 at h
    refine go_step (fun _ => ev_run 2 (F' := (22, [some (.ref h0), some (.int x1), some (.ref h2), some (.int l3), none], [.ref h0, .int l3])) rfl) ?_
    refine go_step (fun _ => ev_getf rfl ((fr h0 (xo_c (Ne.symm ne_h0_h2) (xo_c (Ne.symm ne_h0_q2) rfl))).trans u_h0) rfl) ?_
    refine go_step (fun _ => ev_run 1 (F' := (26, [some (.ref h0), some (.int x1), some (.ref h2), some (.int l3), none], [.int x1, .ref s0, .int l3])) rfl) ?_
    obtain ⟨g26, h⟩ := okg h
    refine go_step (fun _ => ev_iald rfl ((fr s0 (xo_c ne_h2_s0 (xo_c ne_q2_s0 rfl))).trans u_s0) g26) ?_
    refine go_icmp rfl (fun (b27 : (as0 x1.toNatClampNeg) ≤ l3) => ?_) (fun (b27 : ¬ ((as0 x1.toNatClampNeg) ≤ l3)) => ?_)
    · have h := (if_pos b27).symm.trans h
      refine go_step (fun _ => ev_forget (L' := [none, none, none, none, none]) (show xleP _ [some (.ref h0), some (.int x1), some (.ref h2), some (.int l3), none] from trivial) rfl) ?_
      cases h
      exact Or.inl ⟨_, _, fun r hr => hr, H, rfl, rfl, e_h2, e_q2, fr⟩
    · have h := (if_neg b27).symm.trans h
      refine go_step (fun _ => ev_run 2 (F' := (32, [some (.ref h0), some (.int x1), some (.ref h2), some (.int l3), none], [.ref h0, .int x1])) rfl) ?_
      refine go_step (fun _ => ev_getf rfl ((fr h0 (xo_c (Ne.symm ne_h0_h2) (xo_c (Ne.symm ne_h0_q2) rfl))).trans u_h0) rfl) ?_
      refine go_step (fun _ => ev_run 6 (F' := (43, [some (.ref h0), some (.int x1), some (.ref h2), some (.int l3), some (.int ((x1 * ch0_0) + l3))], [.ref h0, .int ((x1 * ch0_0) + l3)])) rfl) ?_
      refine go_step (fun _ => ev_getf rfl ((fr h0 (xo_c (Ne.symm ne_h0_h2) (xo_c (Ne.symm ne_h0_q2) rfl))).trans u_h0) rfl) ?_
      refine go_step (fun _ => ev_alen rfl ((fr v0 (xo_c ne_h2_v0 (xo_c ne_q2_v0 rfl))).trans u_v0) rfl) ?_
      refine go_icmp rfl (fun (b47 : (nI mv0) ≤ ((x1 * ch0_0) + l3)) => ?_) (fun (b47 : ¬ ((nI mv0) ≤ ((x1 * ch0_0) + l3))) => ?_)
      · have h := (if_pos b47).symm.trans h
        refine go_step (fun _ => ev_run 2 (F' := (20, [some (.ref h0), some (.int x1), some (.ref h2), some (.int (l3 + (1 : Int32))), some (.int ((x1 * ch0_0) + l3))], [])) rfl) ?_
        refine go_step (fun _ => ev_forget (L' := [some (.ref h0), some (.int x1), some (.ref h2), some (.int (l3 + (1 : Int32))), none]) (show xleP _ [some (.ref h0), some (.int x1), some (.ref h2), some (.int (l3 + (1 : Int32))), some (.int ((x1 * ch0_0) + l3))] from ⟨rfl, ⟨rfl, ⟨rfl, ⟨rfl, trivial⟩⟩⟩⟩) rfl) ?_
        exact ih (l3 + (1 : Int32)) ch2_1 aq2 H fr e_h2 e_q2 _ h
      · have h := (if_neg b47).symm.trans h
        refine go_step (fun _ => ev_run 2 (F' := (52, [some (.ref h0), some (.int x1), some (.ref h2), some (.int l3), some (.int ((x1 * ch0_0) + l3))], [.ref h0, .ref h2])) rfl) ?_
        refine go_step (fun _ => ev_getf rfl ((fr h0 (xo_c (Ne.symm ne_h0_h2) (xo_c (Ne.symm ne_h0_q2) rfl))).trans u_h0) rfl) ?_
        refine go_step (fun _ => ev_run 1 (F' := (57, [some (.ref h0), some (.int x1), some (.ref h2), some (.int l3), some (.int ((x1 * ch0_0) + l3))], [.int ((x1 * ch0_0) + l3), .ref v0, .ref h2])) rfl) ?_
        obtain ⟨g57, h⟩ := okg h
        refine go_step (fun _ => ev_iald rfl ((fr v0 (xo_c ne_h2_v0 (xo_c ne_q2_v0 rfl))).trans u_v0) g57) ?_
        obtain ⟨y1, hy1, h⟩ := okb h
        obtain ⟨H2, hCH2, eH2_h2, eH2_q2, fH2⟩ := C_X5_append (S := S) (d := d) (z := z) (x1 := (av0 ((x1 * ch0_0) + l3).toNatClampNeg)) e_h2 e_q2 ne_h2_q2 hm_q2 hy1
        refine go_step (F1 := (61, [some (.ref h0), some (.int x1), some (.ref h2), some (.int l3), some (.int ((x1 * ch0_0) + l3))], [])) (M1 := (H2, z)) (fun _ => ev_callV (x := (.invokevirtual 42, 3, 57, 4, 802, .null)) (as := [.int (av0 ((x1 * ch0_0) + l3).toNatClampNeg)]) (rest := []) rfl rfl e_h2 hCH2 rfl) ?_
        refine go_step (fun _ => ev_run 2 (F' := (20, [some (.ref h0), some (.int x1), some (.ref h2), some (.int (l3 + (1 : Int32))), some (.int ((x1 * ch0_0) + l3))], [])) rfl) ?_
        refine go_step (fun _ => ev_forget (L' := [some (.ref h0), some (.int x1), some (.ref h2), some (.int (l3 + (1 : Int32))), none]) (show xleP _ [some (.ref h0), some (.int x1), some (.ref h2), some (.int (l3 + (1 : Int32))), some (.int ((x1 * ch0_0) + l3))] from ⟨rfl, ⟨rfl, ⟨rfl, ⟨rfl, trivial⟩⟩⟩⟩) rfl) ?_
        exact ih (l3 + (1 : Int32)) y1.1 y1.2 H2 (xfr_t fr (xs_c xm_h (xs_c (xm_t xm_h) rfl)) fH2) eH2_h2 eH2_q2 _ h
theorem C_X8_read {S : Nat × (Nat → Int32)} {d : Nat} {H : List xE} {z : Bool × Nat × Nat} {h2 h0 s0 v0 q2 : Nat} {ch2_1 : Int32} {ch0_0 : Int32} {ms0 : Nat} {as0 : Nat → Int32} {mv0 : Nat} {av0 : Nat → Int32} {mq2 : Nat} {aq2 : Nat → Int32} {x1 : Int32} (u_h2 : H[h2]? = some (.inr (4, [.ref q2, .int ch2_1]))) (u_h0 : H[h0]? = some (.inr (7, [.int ch0_0, .ref v0, .ref s0]))) (u_s0 : H[s0]? = some (.inl (0, ms0, .inl as0))) (u_v0 : H[v0]? = some (.inl (0, mv0, .inl av0))) (u_q2 : H[q2]? = some (.inl (0, mq2, .inl aq2))) (ne_h0_h2 : h0 ≠ h2) (ne_h0_q2 : h0 ≠ q2) (ne_h2_q2 : h2 ≠ q2) (ne_h2_s0 : h2 ≠ s0) (ne_h2_v0 : h2 ≠ v0) (ne_q2_s0 : q2 ≠ s0) (ne_q2_v0 : q2 ≠ v0) (hm_q2 : mq2 < 2147483648) {x : (Int32 × (Nat → Int32))} (h : q_X8_read x1 ch0_0 ms0 as0 mv0 av0 mq2 aq2 = some x) : ∃ H' : List xE, Cm S (d + 3) 80 [.ref h0, .int x1, .ref h2] (H, z) (.inr none, (H', z)) ∧ H'[h2]? = some (.inr (4, [.ref q2, .int x.1])) ∧ H'[q2]? = some (.inl (0, mq2, .inl x.2)) ∧ xfr [h2, q2] H H' := by
  have G : Go S (d + 3) 80 (0, [some (.ref h0), some (.int x1), some (.ref h2), none, none], []) (H, z) (fun _ _ => False) (fun r => ∃ H' : List xE, r = (.inr none, (H', z)) ∧ H'[h2]? = some (.inr (4, [.ref q2, .int x.1])) ∧ H'[q2]? = some (.inl (0, mq2, .inl x.2)) ∧ xfr [h2, q2] H H') := by
    unfold q_X8_read at h
    refine go_step (fun _ => ev_run 1 (F' := (1, [some (.ref h0), some (.int x1), some (.ref h2), none, none], [.ref h2])) rfl) ?_
    obtain ⟨H1, hCH1, eH1_h2, fH1⟩ := C_X5_empty (S := S) (d := d + 2) (z := z) u_h2
    refine go_step (F1 := (4, [some (.ref h0), some (.int x1), some (.ref h2), none, none], [])) (M1 := (H1, z)) (fun _ => ev_callV (x := (.invokevirtual 39, 3, 59, 4, 798, .null)) (as := []) (rest := []) rfl rfl u_h2 hCH1 rfl) ?_
    refine go_step (fun _ => ev_run 1 (F' := (5, [some (.ref h0), some (.int x1), some (.ref h2), none, none], [.int x1])) rfl) ?_
    refine go_if rfl (fun (b5 : x1 < (0 : Int32)) => ?_) (fun (b5 : ¬ (x1 < (0 : Int32))) => ?_)
    · have h := (if_pos b5).symm.trans h
      cases h
      exact Or.inr ⟨_, ev_ret rfl rfl rfl rfl, H1, rfl, eH1_h2, ((fH1 q2 (xo_c ne_h2_q2 rfl)).trans u_q2), (xfr_t xfr_refl (xs_c xm_h rfl) fH1)⟩
    · have h := (if_neg b5).symm.trans h
      refine go_step (fun _ => ev_run 2 (F' := (10, [some (.ref h0), some (.int x1), some (.ref h2), none, none], [.ref h0, .int x1])) rfl) ?_
      refine go_step (fun _ => ev_getf rfl ((fH1 h0 (xo_c (Ne.symm ne_h0_h2) rfl)).trans u_h0) rfl) ?_
      refine go_step (fun _ => ev_alen rfl ((fH1 s0 (xo_c ne_h2_s0 rfl)).trans u_s0) rfl) ?_
      refine go_icmp rfl (fun (b14 : x1 < (nI ms0)) => ?_) (fun (b14 : ¬ (x1 < (nI ms0))) => ?_)
      · have h := (if_pos b14).symm.trans h
        refine go_step (fun _ => ev_run 2 (F' := (20, [some (.ref h0), some (.int x1), some (.ref h2), some (.int (0 : Int32)), none], [])) rfl) ?_
        obtain ⟨y2, hy2, h⟩ := okb h
        obtain ⟨_, _, hr4, H3, rfl, rfl, eH3_h2, eH3_q2, fH3⟩ := go_nr (L_X8_read_L20 (S := S) (d := d) (z := z) (x1 := x1) ((fH1 h0 (xo_c (Ne.symm ne_h0_h2) rfl)).trans u_h0) ((fH1 s0 (xo_c ne_h2_s0 rfl)).trans u_s0) ((fH1 v0 (xo_c ne_h2_v0 rfl)).trans u_v0) ne_h0_h2 ne_h0_q2 ne_h2_q2 ne_h2_s0 ne_h2_v0 ne_q2_s0 ne_q2_v0 hm_q2 10000 (0 : Int32) (t_X5_empty) aq2 H1 xfr_refl eH1_h2 ((fH1 q2 (xo_c ne_h2_q2 rfl)).trans u_q2) _ hy2)
        refine go_step hr4 ?_
        cases h
        exact Or.inr ⟨_, ev_ret rfl rfl rfl rfl, H3, rfl, eH3_h2, eH3_q2, (xfr_t (xfr_t xfr_refl (xs_c xm_h rfl) fH1) (xs_c xm_h (xs_c (xm_t xm_h) rfl)) fH3)⟩
      · have h := (if_neg b14).symm.trans h
        cases h
        exact Or.inr ⟨_, ev_ret rfl rfl rfl rfl, H1, rfl, eH1_h2, ((fH1 q2 (xo_c ne_h2_q2 rfl)).trans u_q2), (xfr_t xfr_refl (xs_c xm_h rfl) fH1)⟩
  obtain ⟨_, hE, H', rfl, hrest⟩ := go_end G
  exact ⟨H', hE, hrest⟩
def q_X3_giveBack (c3_1 : Int32) (c3_2 : Int32) (c4_0 : Int32) (a6 : Nat → Int32) (a5 : Nat → Int32) (a2 : Nat → Int32) : Option (Int32 × Int32 × Int32 × (Nat → Int32)) := ((q_X8_read (((c3_1 + (10 : Int32)) - (1 : Int32)) - ((c3_1 + (10 : Int32)) - (1 : Int32)) / (10 : Int32) * (10 : Int32)) c4_0 10 a6 640 a5 64 a2).bind (fun y3 => (some ((((c3_1 + (10 : Int32)) - (1 : Int32)) - ((c3_1 + (10 : Int32)) - (1 : Int32)) / (10 : Int32) * (10 : Int32)), (if (c3_2 - (1 : Int32)) < (0 : Int32) then (0 : Int32) else (c3_2 - (1 : Int32))), y3.1, y3.2))))
theorem C_X3_giveBack {S : Nat × (Nat → Int32)} {d : Nat} {H : List xE} {z : Bool × Nat × Nat} {c3_1 : Int32} {c3_2 : Int32} {c4_0 : Int32} {c1_1 : Int32} {a6 : Nat → Int32} {a5 : Nat → Int32} {a2 : Nat → Int32} (u_3 : H[3]? = some (.inr (2, [.ref 4, .int c3_1, .int c3_2]))) (u_4 : H[4]? = some (.inr (7, [.int c4_0, .ref 5, .ref 6]))) (u_1 : H[1]? = some (.inr (4, [.ref 2, .int c1_1]))) (u_6 : H[6]? = some (.inl (0, 10, .inl a6))) (u_5 : H[5]? = some (.inl (0, 640, .inl a5))) (u_2 : H[2]? = some (.inl (0, 64, .inl a2))) {x : (Int32 × Int32 × Int32 × (Nat → Int32))} (h : q_X3_giveBack c3_1 c3_2 c4_0 a6 a5 a2 = some x) : ∃ H' : List xE, Cm S (d + 4) 38 [.ref 3, .ref 1] (H, z) (.inr none, (H', z)) ∧ H'[3]? = some (.inr (2, [.ref 4, .int x.1, .int x.2.1])) ∧ H'[1]? = some (.inr (4, [.ref 2, .int x.2.2.1])) ∧ H'[2]? = some (.inl (0, 64, .inl x.2.2.2)) ∧ xfr [3, 1, 2] H H' := by
  have G : Go S (d + 4) 38 (0, [some (.ref 3), some (.ref 1)], []) (H, z) (fun _ _ => False) (fun r => ∃ H' : List xE, r = (.inr none, (H', z)) ∧ H'[3]? = some (.inr (2, [.ref 4, .int x.1, .int x.2.1])) ∧ H'[1]? = some (.inr (4, [.ref 2, .int x.2.2.1])) ∧ H'[2]? = some (.inl (0, 64, .inl x.2.2.2)) ∧ xfr [3, 1, 2] H H') := by
    unfold q_X3_giveBack at h
    refine go_step (fun _ => ev_run 2 (F' := (2, [some (.ref 3), some (.ref 1)], [.ref 3, .ref 3])) rfl) ?_
    refine go_step (fun _ => ev_getf rfl u_3 rfl) ?_
    refine go_step (fun _ => ev_run 5 (F' := (12, [some (.ref 3), some (.ref 1)], [.int (10 : Int32), .int ((c3_1 + (10 : Int32)) - (1 : Int32)), .ref 3])) rfl) ?_
    refine go_step (fun _ => ev_rem rfl (by decide)) ?_
    refine go_putf rfl u_3 rfl (fun H1 (eH1 : H1[3]? = some (.inr (2, [.ref 4, .int (((c3_1 + (10 : Int32)) - (1 : Int32)) - ((c3_1 + (10 : Int32)) - (1 : Int32)) / (10 : Int32) * (10 : Int32)), .int c3_2]))) fH1 => ?_)
    refine go_step (fun _ => ev_run 2 (F' := (18, [some (.ref 3), some (.ref 1)], [.ref 3, .ref 3])) rfl) ?_
    refine go_step (fun _ => ev_getf rfl eH1 rfl) ?_
    refine go_step (fun _ => ev_run 4 (F' := (27, [some (.ref 3), some (.ref 1)], [.int (if (c3_2 - (1 : Int32)) < (0 : Int32) then (0 : Int32) else (c3_2 - (1 : Int32))), .ref 3])) rfl) ?_
    refine go_putf rfl eH1 rfl (fun H2 (eH2 : H2[3]? = some (.inr (2, [.ref 4, .int (((c3_1 + (10 : Int32)) - (1 : Int32)) - ((c3_1 + (10 : Int32)) - (1 : Int32)) / (10 : Int32) * (10 : Int32)), .int (if (c3_2 - (1 : Int32)) < (0 : Int32) then (0 : Int32) else (c3_2 - (1 : Int32)))]))) fH2 => ?_)
    refine go_step (fun _ => ev_run 1 (F' := (31, [some (.ref 3), some (.ref 1)], [.ref 3])) rfl) ?_
    refine go_step (fun _ => ev_getf rfl eH2 rfl) ?_
    refine go_step (fun _ => ev_run 1 (F' := (35, [some (.ref 3), some (.ref 1)], [.ref 3, .ref 4])) rfl) ?_
    refine go_step (fun _ => ev_getf rfl eH2 rfl) ?_
    refine go_step (fun _ => ev_run 1 (F' := (39, [some (.ref 3), some (.ref 1)], [.ref 1, .int (((c3_1 + (10 : Int32)) - (1 : Int32)) - ((c3_1 + (10 : Int32)) - (1 : Int32)) / (10 : Int32) * (10 : Int32)), .ref 4])) rfl) ?_
    obtain ⟨y3, hy3, h⟩ := okb h
    obtain ⟨H4, hCH4, eH4_1, eH4_2, fH4⟩ := C_X8_read (S := S) (d := d) (z := z) (x1 := (((c3_1 + (10 : Int32)) - (1 : Int32)) - ((c3_1 + (10 : Int32)) - (1 : Int32)) / (10 : Int32) * (10 : Int32))) ((fH2 1 rfl).trans ((fH1 1 rfl).trans u_1)) ((fH2 4 rfl).trans ((fH1 4 rfl).trans u_4)) ((fH2 6 rfl).trans ((fH1 6 rfl).trans u_6)) ((fH2 5 rfl).trans ((fH1 5 rfl).trans u_5)) ((fH2 2 rfl).trans ((fH1 2 rfl).trans u_2)) (nb rfl) (nb rfl) (nb rfl) (nb rfl) (nb rfl) (nb rfl) (nb rfl) (by decide) hy3
    refine go_step (F1 := (42, [some (.ref 3), some (.ref 1)], [])) (M1 := (H4, z)) (fun _ => ev_callV (x := (.invokevirtual 40, 3, 80, 7, 794, .null)) (as := [.int (((c3_1 + (10 : Int32)) - (1 : Int32)) - ((c3_1 + (10 : Int32)) - (1 : Int32)) / (10 : Int32) * (10 : Int32)), .ref 1]) (rest := []) rfl rfl ((fH2 4 rfl).trans ((fH1 4 rfl).trans u_4)) hCH4 rfl) ?_
    cases h
    exact Or.inr ⟨_, ev_ret rfl rfl rfl rfl, H4, rfl, ((fH4 3 rfl).trans eH2), eH4_1, eH4_2, (xfr_t (xfr_t (xfr_t xfr_refl rfl fH1) rfl fH2) rfl fH4)⟩
  obtain ⟨_, hE, H', rfl, hrest⟩ := go_end G
  exact ⟨H', hE, hrest⟩

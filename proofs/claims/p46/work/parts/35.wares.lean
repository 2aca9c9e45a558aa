/-! Functions of the methods, and that the small machine does what they say: written by a program (wip/whole/dec). -/
def q_X0_rollingSum_L7 (x1 : Int32) (mq0 : Nat) (aq0 : Nat → Int32) : Nat → Int32 → Int32 → Option (Int32 × Int32)
  | 0, _, _ => none
  | n + 1, l3, l4 => (if l4 < (0 : Int32) then (some (l3, l4)) else (q_X0_rollingSum_L7 x1 mq0 aq0 n ((((31 : Int32) * l3) + (t_X5_at (x1 - l4) mq0 aq0)) - (((31 : Int32) * l3) + (t_X5_at (x1 - l4) mq0 aq0)) / (65521 : Int32) * (65521 : Int32)) (l4 + (-1 : Int32))))
def q_X0_rollingSum (x1 : Int32) (x2 : Int32) (mq0 : Nat) (aq0 : Nat → Int32) : Option Int32 := ((q_X0_rollingSum_L7 x1 mq0 aq0 10000 (0 : Int32) (x2 - (1 : Int32))).bind (fun y1 => (some y1.1)))
theorem L_X0_rollingSum_L7 {S : Nat × (Nat → Int32)} {d : Nat} {z : Bool × Nat × Nat} {h0 q0 : Nat} {ch0_1 : Int32} {x1 : Int32} {mq0 : Nat} {aq0 : Nat → Int32} {H : List xE} (u_h0 : H[h0]? = some (.inr (4, [.ref q0, .int ch0_1]))) (u_q0 : H[q0]? = some (.inl (0, mq0, .inl aq0))) (hm_q0 : mq0 < 2147483648) : ∀ (n : Nat) (l3 : Int32) (l4 : Int32) x, q_X0_rollingSum_L7 x1 mq0 aq0 n l3 l4 = some x → Go S (d + 1) 1 (7, [some (.ref h0), some (.int x1), none, some (.int l3), some (.int l4)], []) (H, z) (fun F' M' =>  F' = (35, [none, none, none, some (.int x.1), none], []) ∧ M' = (H, z)) (fun _ => False) := by
  intro n
  induction n with
  | zero =>
    intro l3 l4 x h
    unfold q_X0_rollingSum_L7 at h
    cases h
  | succ n ih =>
    intro l3 l4 x h
    unfold q_X0_rollingSum_L7 at h
    refine go_step (fun _ => ev_run 1 (F' := (9, [some (.ref h0), some (.int x1), none, some (.int l3), some (.int l4)], [.int l4])) rfl) ?_
    refine go_if rfl (fun (b9 : l4 < (0 : Int32)) => ?_) (fun (b9 : ¬ (l4 < (0 : Int32))) => ?_)
    · have h := (if_pos b9).symm.trans h
      refine go_step (fun _ => ev_forget (L' := [none, none, none, some (.int l3), none]) (show xleP _ [some (.ref h0), some (.int x1), none, some (.int l3), some (.int l4)] from ⟨rfl, trivial⟩) rfl) ?_
      cases h
      exact Or.inl ⟨_, _, fun r hr => hr, rfl, rfl⟩
    · have h := (if_neg b9).symm.trans h
      refine go_step (fun _ => ev_run 7 (F' := (21, [some (.ref h0), some (.int x1), none, some (.int l3), some (.int l4)], [.int (x1 - l4), .ref h0, .int ((31 : Int32) * l3)])) rfl) ?_
      refine go_step (F1 := (24, [some (.ref h0), some (.int x1), none, some (.int l3), some (.int l4)], [.int (t_X5_at (x1 - l4) mq0 aq0), .int ((31 : Int32) * l3)])) (M1 := (H, z)) (fun _ => ev_callV (x := (.invokevirtual 28, 3, 55, 4, 1227, .null)) (as := [.int (x1 - l4)]) (rest := [.int ((31 : Int32) * l3)]) rfl rfl u_h0 (C_X5_at (S := S) (d := d) (z := z) (x1 := (x1 - l4)) u_h0 u_q0 hm_q0) rfl) ?_
      refine go_step (fun _ => ev_run 2 (F' := (27, [some (.ref h0), some (.int x1), none, some (.int l3), some (.int l4)], [.int (65521 : Int32), .int (((31 : Int32) * l3) + (t_X5_at (x1 - l4) mq0 aq0))])) rfl) ?_
      refine go_step (fun _ => ev_rem rfl (by decide)) ?_
      refine go_step (fun _ => ev_run 3 (F' := (7, [some (.ref h0), some (.int x1), none, some (.int ((((31 : Int32) * l3) + (t_X5_at (x1 - l4) mq0 aq0)) - (((31 : Int32) * l3) + (t_X5_at (x1 - l4) mq0 aq0)) / (65521 : Int32) * (65521 : Int32))), some (.int (l4 + (-1 : Int32)))], [])) rfl) ?_
      exact ih ((((31 : Int32) * l3) + (t_X5_at (x1 - l4) mq0 aq0)) - (((31 : Int32) * l3) + (t_X5_at (x1 - l4) mq0 aq0)) / (65521 : Int32) * (65521 : Int32)) (l4 + (-1 : Int32)) _ h
theorem C_X0_rollingSum {S : Nat × (Nat → Int32)} {d : Nat} {H : List xE} {z : Bool × Nat × Nat} {h0 q0 : Nat} {ch0_1 : Int32} {mq0 : Nat} {aq0 : Nat → Int32} {x1 : Int32} {x2 : Int32} (u_h0 : H[h0]? = some (.inr (4, [.ref q0, .int ch0_1]))) (u_q0 : H[q0]? = some (.inl (0, mq0, .inl aq0))) (hm_q0 : mq0 < 2147483648) {x : Int32} (h : q_X0_rollingSum x1 x2 mq0 aq0 = some x) : Cm S (d + 1) 1 [.ref h0, .int x1, .int x2] (H, z) (.inr (some (.int x)), (H, z)) := by
  have G : Go S (d + 1) 1 (0, [some (.ref h0), some (.int x1), some (.int x2), none, none], []) (H, z) (fun _ _ => False) (fun r => r = (.inr (some (.int x)), (H, z))) := by
    unfold q_X0_rollingSum at h
    refine go_step (fun _ => ev_run 6 (F' := (7, [some (.ref h0), some (.int x1), some (.int x2), some (.int (0 : Int32)), some (.int (x2 - (1 : Int32)))], [])) rfl) ?_
    refine go_step (fun _ => ev_forget (L' := [some (.ref h0), some (.int x1), none, some (.int (0 : Int32)), some (.int (x2 - (1 : Int32)))]) (show xleP _ [some (.ref h0), some (.int x1), some (.int x2), some (.int (0 : Int32)), some (.int (x2 - (1 : Int32)))] from ⟨rfl, ⟨rfl, ⟨rfl, ⟨rfl, trivial⟩⟩⟩⟩) rfl) ?_
    obtain ⟨y1, hy1, h⟩ := okb h
    obtain ⟨_, _, hr2, rfl, rfl⟩ := go_nr (L_X0_rollingSum_L7 (S := S) (d := d) (z := z) (x1 := x1) u_h0 u_q0 hm_q0 10000 (0 : Int32) (x2 - (1 : Int32)) _ hy1)
    refine go_step hr2 ?_
    refine go_step (fun _ => ev_run 1 (F' := (36, [none, none, none, some (.int y1.1), none], [.int y1.1])) rfl) ?_
    cases h
    exact Or.inr ⟨_, ev_ret rfl rfl rfl rfl, rfl⟩
  obtain ⟨_, hE, rfl⟩ := go_end G
  exact hE
def q_X0_isCut (x1 : Int32) (x2 : Int32) (x3 : Int32) (my0 : Nat) (ay0 : Nat → Int32) : Option Int32 := (if x1 < (x2 - (1 : Int32)) then (some (0 : Int32)) else (if x3 ≤ (0 : Int32) then (some (0 : Int32)) else ((q_X0_rollingSum x1 x2 my0 ay0).bind (fun y1 => (if x3 = (0 : Int32) then none else (if ¬ (y1 - y1 / x3 * x3) = (0 : Int32) then (some (0 : Int32)) else (some (1 : Int32))))))))
theorem C_X0_isCut {S : Nat × (Nat → Int32)} {d : Nat} {H : List xE} {z : Bool × Nat × Nat} {h0 r0 y0 e0 t0 : Nat} {ch0_3 : Int32} {cr0_1 : Int32} {my0 : Nat} {ay0 : Nat → Int32} {x1 : Int32} {x2 : Int32} {x3 : Int32} (u_h0 : H[h0]? = some (.inr (0, [.ref r0, .ref e0, .ref t0, .int ch0_3]))) (u_r0 : H[r0]? = some (.inr (4, [.ref y0, .int cr0_1]))) (u_y0 : H[y0]? = some (.inl (0, my0, .inl ay0))) (hm_y0 : my0 < 2147483648) {x : Int32} (h : q_X0_isCut x1 x2 x3 my0 ay0 = some x) : Cm S (d + 2) 6 [.ref h0, .int x1, .int x2, .int x3] (H, z) (.inr (some (.int x)), (H, z)) := by
  have G : Go S (d + 2) 6 (0, [some (.ref h0), some (.int x1), some (.int x2), some (.int x3)], []) (H, z) (fun _ _ => False) (fun r => r = (.inr (some (.int x)), (H, z))) := by
    unfold q_X0_isCut at h
    refine go_step (fun _ => ev_run 4 (F' := (4, [some (.ref h0), some (.int x1), some (.int x2), some (.int x3)], [.int (x2 - (1 : Int32)), .int x1])) rfl) ?_
    refine go_icmp rfl (fun (b4 : x1 < (x2 - (1 : Int32))) => ?_) (fun (b4 : ¬ (x1 < (x2 - (1 : Int32)))) => ?_)
    · have h := (if_pos b4).symm.trans h
      refine go_step (fun _ => ev_run 1 (F' := (30, [some (.ref h0), some (.int x1), some (.int x2), some (.int x3)], [.int (0 : Int32)])) rfl) ?_
      cases h
      exact Or.inr ⟨_, ev_ret rfl rfl rfl rfl, rfl⟩
    · have h := (if_neg b4).symm.trans h
      refine go_step (fun _ => ev_run 1 (F' := (8, [some (.ref h0), some (.int x1), some (.int x2), some (.int x3)], [.int x3])) rfl) ?_
      refine go_if rfl (fun (b8 : x3 ≤ (0 : Int32)) => ?_) (fun (b8 : ¬ (x3 ≤ (0 : Int32))) => ?_)
      · have h := (if_pos b8).symm.trans h
        refine go_step (fun _ => ev_run 1 (F' := (30, [some (.ref h0), some (.int x1), some (.int x2), some (.int x3)], [.int (0 : Int32)])) rfl) ?_
        cases h
        exact Or.inr ⟨_, ev_ret rfl rfl rfl rfl, rfl⟩
      · have h := (if_neg b8).symm.trans h
        refine go_step (fun _ => ev_run 1 (F' := (12, [some (.ref h0), some (.int x1), some (.int x2), some (.int x3)], [.ref h0])) rfl) ?_
        refine go_step (fun _ => ev_getf rfl u_h0 rfl) ?_
        refine go_step (fun _ => ev_run 2 (F' := (17, [some (.ref h0), some (.int x1), some (.int x2), some (.int x3)], [.int x2, .int x1, .ref r0])) rfl) ?_
        obtain ⟨y1, hy1, h⟩ := okb h
        refine go_step (F1 := (20, [some (.ref h0), some (.int x1), some (.int x2), some (.int x3)], [.int y1])) (M1 := (H, z)) (fun _ => ev_call (x := (.invokestatic 56, 3, 1, 0, 1224, .null)) (as := [.ref r0, .int x1, .int x2]) (rest := []) rfl rfl (C_X0_rollingSum (S := S) (d := d) (z := z) (x1 := x1) (x2 := x2) u_r0 u_y0 hm_y0 hy1) rfl) ?_
        refine go_step (fun _ => ev_run 1 (F' := (21, [some (.ref h0), some (.int x1), some (.int x2), some (.int x3)], [.int x3, .int y1])) rfl) ?_
        obtain ⟨d21, h⟩ := okd h
        refine go_step (fun _ => ev_rem rfl d21) ?_
        refine go_if rfl (fun (b22 : ¬ (y1 - y1 / x3 * x3) = (0 : Int32)) => ?_) (fun (b22 : ¬ (¬ (y1 - y1 / x3 * x3) = (0 : Int32))) => ?_)
        · have h := (if_pos b22).symm.trans h
          refine go_step (fun _ => ev_run 1 (F' := (30, [some (.ref h0), some (.int x1), some (.int x2), some (.int x3)], [.int (0 : Int32)])) rfl) ?_
          cases h
          exact Or.inr ⟨_, ev_ret rfl rfl rfl rfl, rfl⟩
        · have h := (if_neg b22).symm.trans h
          refine go_step (fun _ => ev_run 2 (F' := (30, [some (.ref h0), some (.int x1), some (.int x2), some (.int x3)], [.int (1 : Int32)])) rfl) ?_
          cases h
          exact Or.inr ⟨_, ev_ret rfl rfl rfl rfl, rfl⟩
  obtain ⟨_, hE, rfl⟩ := go_end G
  exact hE
def q_X0_cut_L16 (x2 : Int32) (x3 : Int32) (cr0_1 : Int32) (my0 : Nat) (ay0 : Nat → Int32) : Nat → Int32 → Int32 → (Nat → Int32) → Option (Int32 × Int32 × (Nat → Int32))
  | 0, _, _, _ => none
  | n + 1, l4, ch0_3, ae0 => (if (t_X5_size cr0_1) ≤ l4 then (some (l4, ch0_3, ae0)) else ((q_X0_isCut l4 x2 x3 my0 ay0).bind (fun y1 => (if ¬ y1 = (0 : Int32) then (if (nI 65) ≤ ch0_3 then (q_X0_cut_L16 x2 x3 cr0_1 my0 ay0 n (l4 + (1 : Int32)) ch0_3 ae0) else (if xin ch0_3 65 = true then (q_X0_cut_L16 x2 x3 cr0_1 my0 ay0 n (l4 + (1 : Int32)) (ch0_3 + (1 : Int32)) (upd ae0 ch0_3.toNatClampNeg (l4 + (1 : Int32)))) else none)) else (if ¬ l4 = ((t_X5_size cr0_1) - (1 : Int32)) then (q_X0_cut_L16 x2 x3 cr0_1 my0 ay0 n (l4 + (1 : Int32)) ch0_3 ae0) else (if (nI 65) ≤ ch0_3 then (q_X0_cut_L16 x2 x3 cr0_1 my0 ay0 n (l4 + (1 : Int32)) ch0_3 ae0) else (if xin ch0_3 65 = true then (q_X0_cut_L16 x2 x3 cr0_1 my0 ay0 n (l4 + (1 : Int32)) (ch0_3 + (1 : Int32)) (upd ae0 ch0_3.toNatClampNeg (l4 + (1 : Int32)))) else none)))))))
def q_X0_cut (x2 : Int32) (x3 : Int32) (ch1_1 : Int32) (my0 : Nat) (ay0 : Nat → Int32) (mq1 : Nat) (aq1 : Nat → Int32) (ae0 : Nat → Int32) : Option (Int32 × Int32 × (Nat → Int32) × (Nat → Int32)) := ((q_X5_copy ch1_1 my0 ay0 mq1 aq1).bind (fun y1 => ((q_X0_cut_L16 x2 x3 y1.1 my0 y1.2 10000 (0 : Int32) (0 : Int32) ae0).bind (fun y4 => (some (y4.2.1, y1.1, y1.2, y4.2.2))))))
theorem L_X0_cut_L16 {S : Nat × (Nat → Int32)} {d : Nat} {z : Bool × Nat × Nat} {h0 r0 h1 y0 q1 e0 t0 : Nat} {ch1_1 : Int32} {mq1 : Nat} {aq1 : Nat → Int32} {x2 : Int32} {x3 : Int32} {cr0_1 : Int32} {my0 : Nat} {ay0 : Nat → Int32} {H0 : List xE} (u_r0 : H0[r0]? = some (.inr (4, [.ref y0, .int cr0_1]))) (u_h1 : H0[h1]? = some (.inr (4, [.ref q1, .int ch1_1]))) (u_y0 : H0[y0]? = some (.inl (0, my0, .inl ay0))) (u_q1 : H0[q1]? = some (.inl (0, mq1, .inl aq1))) (ne_e0_h0 : e0 ≠ h0) (ne_e0_r0 : e0 ≠ r0) (ne_e0_y0 : e0 ≠ y0) (ne_h0_h1 : h0 ≠ h1) (ne_h0_q1 : h0 ≠ q1) (ne_h0_r0 : h0 ≠ r0) (ne_h0_y0 : h0 ≠ y0) (ne_h1_r0 : h1 ≠ r0) (ne_h1_y0 : h1 ≠ y0) (ne_q1_r0 : q1 ≠ r0) (ne_q1_y0 : q1 ≠ y0) (ne_r0_y0 : r0 ≠ y0) (hm_q1 : mq1 < 2147483648) (hm_y0 : my0 < 2147483648) : ∀ (n : Nat) (l4 : Int32) (ch0_3 : Int32) (ae0 : Nat → Int32) (H : List xE), xfr [h0, e0] H0 H → H[h0]? = some (.inr (0, [.ref r0, .ref e0, .ref t0, .int ch0_3])) → H[e0]? = some (.inl (0, 65, .inl ae0)) → ∀ x, q_X0_cut_L16 x2 x3 cr0_1 my0 ay0 n l4 ch0_3 ae0 = some x → Go S (d + 3) 2 (16, [some (.ref h0), none, some (.int x2), some (.int x3), some (.int l4)], []) (H, z) (fun F' M' => ∃ H' : List xE, F' = (94, [none, none, none, none, none], []) ∧ M' = (H', z) ∧ H'[h0]? = some (.inr (0, [.ref r0, .ref e0, .ref t0, .int x.2.1])) ∧ H'[e0]? = some (.inl (0, 65, .inl x.2.2)) ∧ xfr [h0, e0] H0 H') (fun _ => False) := by
  intro n
  induction n with
  | zero =>
    intro l4 ch0_3 ae0 H fr e_h0 e_e0 x h
    unfold q_X0_cut_L16 at h
    cases h
  | succ n ih =>
    intro l4 ch0_3 ae0 H fr e_h0 e_e0 x h
    unfold q_X0_cut_L16 at h
    refine go_step (fun _ => ev_run 2 (F' := (19, [some (.ref h0), none, some (.int x2), some (.int x3), some (.int l4)], [.ref h0, .int l4])) rfl) ?_
    refine go_step (fun _ => ev_getf rfl e_h0 rfl) ?_
    refine go_step (F1 := (25, [some (.ref h0), none, some (.int x2), some (.int x3), some (.int l4)], [.int (t_X5_size cr0_1), .int l4])) (M1 := (H, z)) (fun _ => ev_callV (x := (.invokevirtual 41, 3, 53, 4, 1219, .null)) (as := []) (rest := [.int l4]) rfl rfl ((fr r0 (xo_c ne_h0_r0 (xo_c ne_e0_r0 rfl))).trans u_r0) (C_X5_size (S := S) (d := d + 2) (z := z) ((fr r0 (xo_c ne_h0_r0 (xo_c ne_e0_r0 rfl))).trans u_r0)) rfl) ?_
    refine go_icmp rfl (fun (b25 : (t_X5_size cr0_1) ≤ l4) => ?_) (fun (b25 : ¬ ((t_X5_size cr0_1) ≤ l4)) => ?_)
    · have h := (if_pos b25).symm.trans h
      refine go_step (fun _ => ev_forget (L' := [none, none, none, none, none]) (show xleP _ [some (.ref h0), none, some (.int x2), some (.int x3), some (.int l4)] from trivial) rfl) ?_
      cases h
      exact Or.inl ⟨_, _, fun r hr => hr, H, rfl, rfl, e_h0, e_e0, fr⟩
    · have h := (if_neg b25).symm.trans h
      refine go_step (fun _ => ev_run 4 (F' := (33, [some (.ref h0), none, some (.int x2), some (.int x3), some (.int l4)], [.int x3, .int x2, .int l4, .ref h0])) rfl) ?_
      obtain ⟨y1, hy1, h⟩ := okb h
      refine go_step (F1 := (36, [some (.ref h0), none, some (.int x2), some (.int x3), some (.int l4)], [.int y1])) (M1 := (H, z)) (fun _ => ev_callV (x := (.invokevirtual 45, 3, 6, 0, 1220, .null)) (as := [.int l4, .int x2, .int x3]) (rest := []) rfl rfl e_h0 (C_X0_isCut (S := S) (d := d) (z := z) (x1 := l4) (x2 := x2) (x3 := x3) e_h0 ((fr r0 (xo_c ne_h0_r0 (xo_c ne_e0_r0 rfl))).trans u_r0) ((fr y0 (xo_c ne_h0_y0 (xo_c ne_e0_y0 rfl))).trans u_y0) hm_y0 hy1) rfl) ?_
      refine go_if rfl (fun (b36 : ¬ y1 = (0 : Int32)) => ?_) (fun (b36 : ¬ (¬ y1 = (0 : Int32))) => ?_)
      · have h := (if_pos b36).symm.trans h
        refine go_step (fun _ => ev_run 1 (F' := (54, [some (.ref h0), none, some (.int x2), some (.int x3), some (.int l4)], [.ref h0])) rfl) ?_
        refine go_step (fun _ => ev_getf rfl e_h0 rfl) ?_
        refine go_step (fun _ => ev_run 1 (F' := (58, [some (.ref h0), none, some (.int x2), some (.int x3), some (.int l4)], [.ref h0, .int ch0_3])) rfl) ?_
        refine go_step (fun _ => ev_getf rfl e_h0 rfl) ?_
        refine go_step (fun _ => ev_alen rfl e_e0 rfl) ?_
        refine go_icmp rfl (fun (b62 : (nI 65) ≤ ch0_3) => ?_) (fun (b62 : ¬ ((nI 65) ≤ ch0_3)) => ?_)
        · have h := (if_pos b62).symm.trans h
          refine go_step (fun _ => ev_run 2 (F' := (16, [some (.ref h0), none, some (.int x2), some (.int x3), some (.int (l4 + (1 : Int32)))], [])) rfl) ?_
          exact ih (l4 + (1 : Int32)) ch0_3 ae0 H fr e_h0 e_e0 _ h
        · have h := (if_neg b62).symm.trans h
          refine go_step (fun _ => ev_run 1 (F' := (66, [some (.ref h0), none, some (.int x2), some (.int x3), some (.int l4)], [.ref h0])) rfl) ?_
          refine go_step (fun _ => ev_getf rfl e_h0 rfl) ?_
          refine go_step (fun _ => ev_run 1 (F' := (70, [some (.ref h0), none, some (.int x2), some (.int x3), some (.int l4)], [.ref h0, .ref e0])) rfl) ?_
          refine go_step (fun _ => ev_getf rfl e_h0 rfl) ?_
          refine go_step (fun _ => ev_run 3 (F' := (77, [some (.ref h0), none, some (.int x2), some (.int x3), some (.int l4)], [.int (l4 + (1 : Int32)), .int ch0_3, .ref e0])) rfl) ?_
          obtain ⟨g77, h⟩ := okg h
          refine go_iast rfl e_e0 g77 (fun H2 (eH2 : H2[e0]? = some (.inl (0, 65, .inl (upd ae0 ch0_3.toNatClampNeg (l4 + (1 : Int32)))))) fH2 => ?_)
          refine go_step (fun _ => ev_run 2 (F' := (80, [some (.ref h0), none, some (.int x2), some (.int x3), some (.int l4)], [.ref h0, .ref h0])) rfl) ?_
          refine go_step (fun _ => ev_getf rfl ((fH2 h0 (xo_c ne_e0_h0 rfl)).trans e_h0) rfl) ?_
          refine go_step (fun _ => ev_run 2 (F' := (85, [some (.ref h0), none, some (.int x2), some (.int x3), some (.int l4)], [.int (ch0_3 + (1 : Int32)), .ref h0])) rfl) ?_
          refine go_putf rfl ((fH2 h0 (xo_c ne_e0_h0 rfl)).trans e_h0) rfl (fun H3 (eH3 : H3[h0]? = some (.inr (0, [.ref r0, .ref e0, .ref t0, .int (ch0_3 + (1 : Int32))]))) fH3 => ?_)
          refine go_step (fun _ => ev_run 2 (F' := (16, [some (.ref h0), none, some (.int x2), some (.int x3), some (.int (l4 + (1 : Int32)))], [])) rfl) ?_
          exact ih (l4 + (1 : Int32)) (ch0_3 + (1 : Int32)) (upd ae0 ch0_3.toNatClampNeg (l4 + (1 : Int32))) H3 (xfr_t (xfr_t fr (xs_c (xm_t xm_h) rfl) fH2) (xs_c xm_h rfl) fH3) eH3 ((fH3 e0 (xo_c (Ne.symm ne_e0_h0) rfl)).trans eH2) _ h
      · have h := (if_neg b36).symm.trans h
        refine go_step (fun _ => ev_run 2 (F' := (42, [some (.ref h0), none, some (.int x2), some (.int x3), some (.int l4)], [.ref h0, .int l4])) rfl) ?_
        refine go_step (fun _ => ev_getf rfl e_h0 rfl) ?_
        refine go_step (F1 := (48, [some (.ref h0), none, some (.int x2), some (.int x3), some (.int l4)], [.int (t_X5_size cr0_1), .int l4])) (M1 := (H, z)) (fun _ => ev_callV (x := (.invokevirtual 41, 3, 53, 4, 1219, .null)) (as := []) (rest := [.int l4]) rfl rfl ((fr r0 (xo_c ne_h0_r0 (xo_c ne_e0_r0 rfl))).trans u_r0) (C_X5_size (S := S) (d := d + 2) (z := z) ((fr r0 (xo_c ne_h0_r0 (xo_c ne_e0_r0 rfl))).trans u_r0)) rfl) ?_
        refine go_step (fun _ => ev_run 2 (F' := (50, [some (.ref h0), none, some (.int x2), some (.int x3), some (.int l4)], [.int ((t_X5_size cr0_1) - (1 : Int32)), .int l4])) rfl) ?_
        refine go_icmp rfl (fun (b50 : ¬ l4 = ((t_X5_size cr0_1) - (1 : Int32))) => ?_) (fun (b50 : ¬ (¬ l4 = ((t_X5_size cr0_1) - (1 : Int32)))) => ?_)
        · have h := (if_pos b50).symm.trans h
          refine go_step (fun _ => ev_run 2 (F' := (16, [some (.ref h0), none, some (.int x2), some (.int x3), some (.int (l4 + (1 : Int32)))], [])) rfl) ?_
          exact ih (l4 + (1 : Int32)) ch0_3 ae0 H fr e_h0 e_e0 _ h
        · have h := (if_neg b50).symm.trans h
          refine go_step (fun _ => ev_run 1 (F' := (54, [some (.ref h0), none, some (.int x2), some (.int x3), some (.int l4)], [.ref h0])) rfl) ?_
          refine go_step (fun _ => ev_getf rfl e_h0 rfl) ?_
          refine go_step (fun _ => ev_run 1 (F' := (58, [some (.ref h0), none, some (.int x2), some (.int x3), some (.int l4)], [.ref h0, .int ch0_3])) rfl) ?_
          refine go_step (fun _ => ev_getf rfl e_h0 rfl) ?_
          refine go_step (fun _ => ev_alen rfl e_e0 rfl) ?_
          refine go_icmp rfl (fun (b62 : (nI 65) ≤ ch0_3) => ?_) (fun (b62 : ¬ ((nI 65) ≤ ch0_3)) => ?_)
          · have h := (if_pos b62).symm.trans h
            refine go_step (fun _ => ev_run 2 (F' := (16, [some (.ref h0), none, some (.int x2), some (.int x3), some (.int (l4 + (1 : Int32)))], [])) rfl) ?_
            exact ih (l4 + (1 : Int32)) ch0_3 ae0 H fr e_h0 e_e0 _ h
          · have h := (if_neg b62).symm.trans h
            refine go_step (fun _ => ev_run 1 (F' := (66, [some (.ref h0), none, some (.int x2), some (.int x3), some (.int l4)], [.ref h0])) rfl) ?_
            refine go_step (fun _ => ev_getf rfl e_h0 rfl) ?_
            refine go_step (fun _ => ev_run 1 (F' := (70, [some (.ref h0), none, some (.int x2), some (.int x3), some (.int l4)], [.ref h0, .ref e0])) rfl) ?_
            refine go_step (fun _ => ev_getf rfl e_h0 rfl) ?_
            refine go_step (fun _ => ev_run 3 (F' := (77, [some (.ref h0), none, some (.int x2), some (.int x3), some (.int l4)], [.int (l4 + (1 : Int32)), .int ch0_3, .ref e0])) rfl) ?_
            obtain ⟨g77, h⟩ := okg h
            refine go_iast rfl e_e0 g77 (fun H4 (eH4 : H4[e0]? = some (.inl (0, 65, .inl (upd ae0 ch0_3.toNatClampNeg (l4 + (1 : Int32)))))) fH4 => ?_)
            refine go_step (fun _ => ev_run 2 (F' := (80, [some (.ref h0), none, some (.int x2), some (.int x3), some (.int l4)], [.ref h0, .ref h0])) rfl) ?_
            refine go_step (fun _ => ev_getf rfl ((fH4 h0 (xo_c ne_e0_h0 rfl)).trans e_h0) rfl) ?_
            refine go_step (fun _ => ev_run 2 (F' := (85, [some (.ref h0), none, some (.int x2), some (.int x3), some (.int l4)], [.int (ch0_3 + (1 : Int32)), .ref h0])) rfl) ?_
            refine go_putf rfl ((fH4 h0 (xo_c ne_e0_h0 rfl)).trans e_h0) rfl (fun H5 (eH5 : H5[h0]? = some (.inr (0, [.ref r0, .ref e0, .ref t0, .int (ch0_3 + (1 : Int32))]))) fH5 => ?_)
            refine go_step (fun _ => ev_run 2 (F' := (16, [some (.ref h0), none, some (.int x2), some (.int x3), some (.int (l4 + (1 : Int32)))], [])) rfl) ?_
            exact ih (l4 + (1 : Int32)) (ch0_3 + (1 : Int32)) (upd ae0 ch0_3.toNatClampNeg (l4 + (1 : Int32))) H5 (xfr_t (xfr_t fr (xs_c (xm_t xm_h) rfl) fH4) (xs_c xm_h rfl) fH5) eH5 ((fH5 e0 (xo_c (Ne.symm ne_e0_h0) rfl)).trans eH4) _ h
theorem C_X0_cut {S : Nat × (Nat → Int32)} {d : Nat} {H : List xE} {z : Bool × Nat × Nat} {h0 r0 h1 y0 q1 e0 t0 : Nat} {ch0_3 : Int32} {cr0_1 : Int32} {ch1_1 : Int32} {my0 : Nat} {ay0 : Nat → Int32} {mq1 : Nat} {aq1 : Nat → Int32} {ae0 : Nat → Int32} {x2 : Int32} {x3 : Int32} (u_h0 : H[h0]? = some (.inr (0, [.ref r0, .ref e0, .ref t0, .int ch0_3]))) (u_r0 : H[r0]? = some (.inr (4, [.ref y0, .int cr0_1]))) (u_h1 : H[h1]? = some (.inr (4, [.ref q1, .int ch1_1]))) (u_y0 : H[y0]? = some (.inl (0, my0, .inl ay0))) (u_q1 : H[q1]? = some (.inl (0, mq1, .inl aq1))) (u_e0 : H[e0]? = some (.inl (0, 65, .inl ae0))) (ne_e0_h0 : e0 ≠ h0) (ne_e0_r0 : e0 ≠ r0) (ne_e0_y0 : e0 ≠ y0) (ne_h0_h1 : h0 ≠ h1) (ne_h0_q1 : h0 ≠ q1) (ne_h0_r0 : h0 ≠ r0) (ne_h0_y0 : h0 ≠ y0) (ne_h1_r0 : h1 ≠ r0) (ne_h1_y0 : h1 ≠ y0) (ne_q1_r0 : q1 ≠ r0) (ne_q1_y0 : q1 ≠ y0) (ne_r0_y0 : r0 ≠ y0) (hm_q1 : mq1 < 2147483648) (hm_y0 : my0 < 2147483648) {x : (Int32 × Int32 × (Nat → Int32) × (Nat → Int32))} (h : q_X0_cut x2 x3 ch1_1 my0 ay0 mq1 aq1 ae0 = some x) : ∃ H' : List xE, Cm S (d + 3) 2 [.ref h0, .ref h1, .int x2, .int x3] (H, z) (.inr none, (H', z)) ∧ H'[h0]? = some (.inr (0, [.ref r0, .ref e0, .ref t0, .int x.1])) ∧ H'[r0]? = some (.inr (4, [.ref y0, .int x.2.1])) ∧ H'[y0]? = some (.inl (0, my0, .inl x.2.2.1)) ∧ H'[e0]? = some (.inl (0, 65, .inl x.2.2.2)) ∧ xfr [h0, r0, y0, e0] H H' := by
  have G : Go S (d + 3) 2 (0, [some (.ref h0), some (.ref h1), some (.int x2), some (.int x3), none], []) (H, z) (fun _ _ => False) (fun r => ∃ H' : List xE, r = (.inr none, (H', z)) ∧ H'[h0]? = some (.inr (0, [.ref r0, .ref e0, .ref t0, .int x.1])) ∧ H'[r0]? = some (.inr (4, [.ref y0, .int x.2.1])) ∧ H'[y0]? = some (.inl (0, my0, .inl x.2.2.1)) ∧ H'[e0]? = some (.inl (0, 65, .inl x.2.2.2)) ∧ xfr [h0, r0, y0, e0] H H') := by
    unfold q_X0_cut at h
    refine go_step (fun _ => ev_run 1 (F' := (1, [some (.ref h0), some (.ref h1), some (.int x2), some (.int x3), none], [.ref h0])) rfl) ?_
    refine go_step (fun _ => ev_getf rfl u_h0 rfl) ?_
    refine go_step (fun _ => ev_run 1 (F' := (5, [some (.ref h0), some (.ref h1), some (.int x2), some (.int x3), none], [.ref h1, .ref r0])) rfl) ?_
    obtain ⟨y1, hy1, h⟩ := okb h
    obtain ⟨H2, hCH2, eH2_r0, eH2_y0, fH2⟩ := C_X5_copy (S := S) (d := d + 1) (z := z) u_h1 u_r0 u_y0 u_q1 (Ne.symm ne_h1_r0) ne_r0_y0 (Ne.symm ne_q1_r0) ne_h1_y0 (Ne.symm ne_q1_y0) hm_y0 hm_q1 hy1
    refine go_step (F1 := (8, [some (.ref h0), some (.ref h1), some (.int x2), some (.int x3), none], [])) (M1 := (H2, z)) (fun _ => ev_callV (x := (.invokevirtual 33, 3, 60, 4, 1218, .null)) (as := [.ref h1]) (rest := []) rfl rfl u_r0 hCH2 rfl) ?_
    refine go_step (fun _ => ev_run 2 (F' := (10, [some (.ref h0), some (.ref h1), some (.int x2), some (.int x3), none], [.int (0 : Int32), .ref h0])) rfl) ?_
    refine go_putf rfl ((fH2 h0 (xo_c (Ne.symm ne_h0_r0) (xo_c (Ne.symm ne_h0_y0) rfl))).trans u_h0) rfl (fun H3 (eH3 : H3[h0]? = some (.inr (0, [.ref r0, .ref e0, .ref t0, .int (0 : Int32)]))) fH3 => ?_)
    refine go_step (fun _ => ev_run 2 (F' := (16, [some (.ref h0), some (.ref h1), some (.int x2), some (.int x3), some (.int (0 : Int32))], [])) rfl) ?_
    refine go_step (fun _ => ev_forget (L' := [some (.ref h0), none, some (.int x2), some (.int x3), some (.int (0 : Int32))]) (show xleP _ [some (.ref h0), some (.ref h1), some (.int x2), some (.int x3), some (.int (0 : Int32))] from ⟨rfl, ⟨rfl, ⟨rfl, ⟨rfl, trivial⟩⟩⟩⟩) rfl) ?_
    obtain ⟨y4, hy4, h⟩ := okb h
    obtain ⟨_, _, hr6, H5, rfl, rfl, eH5_h0, eH5_e0, fH5⟩ := go_nr (L_X0_cut_L16 (S := S) (d := d) (z := z) (x2 := x2) (x3 := x3) ((fH3 r0 (xo_c ne_h0_r0 rfl)).trans eH2_r0) ((fH3 h1 (xo_c ne_h0_h1 rfl)).trans ((fH2 h1 (xo_c (Ne.symm ne_h1_r0) (xo_c (Ne.symm ne_h1_y0) rfl))).trans u_h1)) ((fH3 y0 (xo_c ne_h0_y0 rfl)).trans eH2_y0) ((fH3 q1 (xo_c ne_h0_q1 rfl)).trans ((fH2 q1 (xo_c (Ne.symm ne_q1_r0) (xo_c (Ne.symm ne_q1_y0) rfl))).trans u_q1)) ne_e0_h0 ne_e0_r0 ne_e0_y0 ne_h0_h1 ne_h0_q1 ne_h0_r0 ne_h0_y0 ne_h1_r0 ne_h1_y0 ne_q1_r0 ne_q1_y0 ne_r0_y0 hm_q1 hm_y0 10000 (0 : Int32) (0 : Int32) ae0 H3 xfr_refl eH3 ((fH3 e0 (xo_c (Ne.symm ne_e0_h0) rfl)).trans ((fH2 e0 (xo_c (Ne.symm ne_e0_r0) (xo_c (Ne.symm ne_e0_y0) rfl))).trans u_e0)) _ hy4)
    refine go_step hr6 ?_
    cases h
    exact Or.inr ⟨_, ev_ret rfl rfl rfl rfl, H5, rfl, eH5_h0, ((fH5 r0 (xo_c ne_h0_r0 (xo_c ne_e0_r0 rfl))).trans ((fH3 r0 (xo_c ne_h0_r0 rfl)).trans eH2_r0)), ((fH5 y0 (xo_c ne_h0_y0 (xo_c ne_e0_y0 rfl))).trans ((fH3 y0 (xo_c ne_h0_y0 rfl)).trans eH2_y0)), eH5_e0, (xfr_t (xfr_t (xfr_t xfr_refl (xs_c (xm_t xm_h) (xs_c (xm_t (xm_t xm_h)) rfl)) fH2) (xs_c xm_h rfl) fH3) (xs_c xm_h (xs_c (xm_t (xm_t (xm_t xm_h))) rfl)) fH5)⟩
  obtain ⟨_, hE, H', rfl, hrest⟩ := go_end G
  exact ⟨H', hE, hrest⟩
def t_X0_count (ch0_3 : Int32) : Int32 := ch0_3
theorem C_X0_count {S : Nat × (Nat → Int32)} {d : Nat} {H : List xE} {z : Bool × Nat × Nat} {h0 r0 e0 t0 : Nat} {ch0_3 : Int32} (u_h0 : H[h0]? = some (.inr (0, [.ref r0, .ref e0, .ref t0, .int ch0_3]))) : Cm S d 3 [.ref h0] (H, z) (.inr (some (.int (t_X0_count ch0_3))), (H, z)) := by
  have G : ∀ x, t_X0_count ch0_3 = x → Go S d 3 (0, [some (.ref h0)], []) (H, z) (fun _ _ => False) (fun r => r = (.inr (some (.int x)), (H, z))) := by
    intro x h
    unfold t_X0_count at h
    refine go_step (fun _ => ev_run 1 (F' := (1, [some (.ref h0)], [.ref h0])) rfl) ?_
    refine go_step (fun _ => ev_getf rfl u_h0 rfl) ?_
    cases h
    exact Or.inr ⟨_, ev_ret rfl rfl rfl rfl, rfl⟩
  obtain ⟨_, hE, rfl⟩ := go_end (G _ rfl)
  exact hE
def t_X0_endOf (x1 : Int32) (ae0 : Nat → Int32) : Int32 := (if x1 < (0 : Int32) then (0 : Int32) else (if (nI 65) ≤ x1 then (0 : Int32) else (ae0 x1.toNatClampNeg)))
theorem C_X0_endOf {S : Nat × (Nat → Int32)} {d : Nat} {H : List xE} {z : Bool × Nat × Nat} {h0 e0 r0 t0 : Nat} {ch0_3 : Int32} {ae0 : Nat → Int32} {x1 : Int32} (u_h0 : H[h0]? = some (.inr (0, [.ref r0, .ref e0, .ref t0, .int ch0_3]))) (u_e0 : H[e0]? = some (.inl (0, 65, .inl ae0))) : Cm S d 4 [.ref h0, .int x1] (H, z) (.inr (some (.int (t_X0_endOf x1 ae0))), (H, z)) := by
  have G : ∀ x, t_X0_endOf x1 ae0 = x → Go S d 4 (0, [some (.ref h0), some (.int x1)], []) (H, z) (fun _ _ => False) (fun r => r = (.inr (some (.int x)), (H, z))) := by
    intro x h
    unfold t_X0_endOf at h
    refine go_step (fun _ => ev_run 1 (F' := (1, [some (.ref h0), some (.int x1)], [.int x1])) rfl) ?_
    refine go_if rfl (fun (b1 : x1 < (0 : Int32)) => ?_) (fun (b1 : ¬ (x1 < (0 : Int32))) => ?_)
    · have h := (if_pos b1).symm.trans h
      refine go_step (fun _ => ev_run 1 (F' := (23, [some (.ref h0), some (.int x1)], [.int (0 : Int32)])) rfl) ?_
      cases h
      exact Or.inr ⟨_, ev_ret rfl rfl rfl rfl, rfl⟩
    · have h := (if_neg b1).symm.trans h
      refine go_step (fun _ => ev_run 2 (F' := (6, [some (.ref h0), some (.int x1)], [.ref h0, .int x1])) rfl) ?_
      refine go_step (fun _ => ev_getf rfl u_h0 rfl) ?_
      refine go_step (fun _ => ev_alen rfl u_e0 rfl) ?_
      refine go_icmp rfl (fun (b10 : (nI 65) ≤ x1) => ?_) (fun (b10 : ¬ ((nI 65) ≤ x1)) => ?_)
      · have h := (if_pos b10).symm.trans h
        refine go_step (fun _ => ev_run 1 (F' := (23, [some (.ref h0), some (.int x1)], [.int (0 : Int32)])) rfl) ?_
        cases h
        exact Or.inr ⟨_, ev_ret rfl rfl rfl rfl, rfl⟩
      · have h := (if_neg b10).symm.trans h
        refine go_step (fun _ => ev_run 1 (F' := (14, [some (.ref h0), some (.int x1)], [.ref h0])) rfl) ?_
        refine go_step (fun _ => ev_getf rfl u_h0 rfl) ?_
        refine go_step (fun _ => ev_run 1 (F' := (18, [some (.ref h0), some (.int x1)], [.int x1, .ref e0])) rfl) ?_
        refine go_step (fun _ => ev_iald rfl u_e0 (xin_of (by decide) b1 b10)) ?_
        refine go_step (fun _ => ev_run 1 (F' := (23, [some (.ref h0), some (.int x1)], [.int (ae0 x1.toNatClampNeg)])) rfl) ?_
        cases h
        exact Or.inr ⟨_, ev_ret rfl rfl rfl rfl, rfl⟩
  obtain ⟨_, hE, rfl⟩ := go_end (G _ rfl)
  exact hE
def q_X0_freeAll_L2 : Nat → Int32 → (Nat → Int32) → Option (Int32 × (Nat → Int32))
  | 0, _, _ => none
  | n + 1, l1, a44 => (if (nI 65) ≤ l1 then (some (l1, a44)) else (if xin l1 65 = true then (q_X0_freeAll_L2 n (l1 + (1 : Int32)) (upd a44 l1.toNatClampNeg (vp_nar .boolean (0 : Int32)))) else none))
def q_X0_freeAll (a44 : Nat → Int32) : Option (Nat → Int32) := ((q_X0_freeAll_L2 10000 (0 : Int32) a44).bind (fun y1 => (some y1.2)))
theorem L_X0_freeAll_L2 {S : Nat × (Nat → Int32)} {d : Nat} {z : Bool × Nat × Nat} {c40_3 : Int32} {H0 : List xE} (u_40 : H0[40]? = some (.inr (0, [.ref 41, .ref 43, .ref 44, .int c40_3]))) : ∀ (n : Nat) (l1 : Int32) (a44 : Nat → Int32) (H : List xE), xfr [44] H0 H → H[44]? = some (.inl (2, 65, .inl a44)) → ∀ x, q_X0_freeAll_L2 n l1 a44 = some x → Go S d 7 (2, [some (.ref 40), some (.int l1)], []) (H, z) (fun F' M' => ∃ H' : List xE, F' = (24, [none, none], []) ∧ M' = (H', z) ∧ H'[44]? = some (.inl (2, 65, .inl x.2)) ∧ xfr [44] H0 H') (fun _ => False) := by
  intro n
  induction n with
  | zero =>
    intro l1 a44 H fr e_44 x h
    unfold q_X0_freeAll_L2 at h
    cases h
  | succ n ih =>
    intro l1 a44 H fr e_44 x h
    unfold q_X0_freeAll_L2 at h
    refine go_step (fun _ => ev_run 2 (F' := (4, [some (.ref 40), some (.int l1)], [.ref 40, .int l1])) rfl) ?_
    refine go_step (fun _ => ev_getf rfl ((fr 40 rfl).trans u_40) rfl) ?_
    refine go_step (fun _ => ev_alen rfl e_44 rfl) ?_
    refine go_icmp rfl (fun (b8 : (nI 65) ≤ l1) => ?_) (fun (b8 : ¬ ((nI 65) ≤ l1)) => ?_)
    · have h := (if_pos b8).symm.trans h
      refine go_step (fun _ => ev_forget (L' := [none, none]) (show xleP _ [some (.ref 40), some (.int l1)] from trivial) rfl) ?_
      cases h
      exact Or.inl ⟨_, _, fun r hr => hr, H, rfl, rfl, e_44, fr⟩
    · have h := (if_neg b8).symm.trans h
      refine go_step (fun _ => ev_run 1 (F' := (12, [some (.ref 40), some (.int l1)], [.ref 40])) rfl) ?_
      refine go_step (fun _ => ev_getf rfl ((fr 40 rfl).trans u_40) rfl) ?_
      refine go_step (fun _ => ev_run 2 (F' := (17, [some (.ref 40), some (.int l1)], [.int (0 : Int32), .int l1, .ref 44])) rfl) ?_
      obtain ⟨g17, h⟩ := okg h
      refine go_bast rfl e_44 g17 (fun H1 (eH1 : H1[44]? = some (.inl (2, 65, .inl (upd a44 l1.toNatClampNeg (vp_nar .boolean (0 : Int32)))))) fH1 => ?_)
      refine go_step (fun _ => ev_run 2 (F' := (2, [some (.ref 40), some (.int (l1 + (1 : Int32)))], [])) rfl) ?_
      exact ih (l1 + (1 : Int32)) (upd a44 l1.toNatClampNeg (vp_nar .boolean (0 : Int32))) H1 (xfr_t fr rfl fH1) eH1 _ h
theorem C_X0_freeAll {S : Nat × (Nat → Int32)} {d : Nat} {H : List xE} {z : Bool × Nat × Nat} {c40_3 : Int32} {a44 : Nat → Int32} (u_40 : H[40]? = some (.inr (0, [.ref 41, .ref 43, .ref 44, .int c40_3]))) (u_44 : H[44]? = some (.inl (2, 65, .inl a44))) {x : Nat → Int32} (h : q_X0_freeAll a44 = some x) : ∃ H' : List xE, Cm S d 7 [.ref 40] (H, z) (.inr none, (H', z)) ∧ H'[44]? = some (.inl (2, 65, .inl x)) ∧ xfr [44] H H' := by
  have G : Go S d 7 (0, [some (.ref 40), none], []) (H, z) (fun _ _ => False) (fun r => ∃ H' : List xE, r = (.inr none, (H', z)) ∧ H'[44]? = some (.inl (2, 65, .inl x)) ∧ xfr [44] H H') := by
    unfold q_X0_freeAll at h
    refine go_step (fun _ => ev_run 2 (F' := (2, [some (.ref 40), some (.int (0 : Int32))], [])) rfl) ?_
    obtain ⟨y1, hy1, h⟩ := okb h
    obtain ⟨_, _, hr3, H2, rfl, rfl, eH2_44, fH2⟩ := go_nr (L_X0_freeAll_L2 (S := S) (d := d) (z := z) u_40 10000 (0 : Int32) a44 H xfr_refl u_44 _ hy1)
    refine go_step hr3 ?_
    cases h
    exact Or.inr ⟨_, ev_ret rfl rfl rfl rfl, H2, rfl, eH2_44, (xfr_t xfr_refl rfl fH2)⟩
  obtain ⟨_, hE, H', rfl, hrest⟩ := go_end G
  exact ⟨H', hE, hrest⟩
def q_X0_isLike_L46 (x4 : Int32) (x5 : Int32) (x6 : Int32) (a42 : Nat → Int32) (a37 : Nat → Int32) : Nat → Int32 → Option (Int32 ⊕ Int32)
  | 0, _ => none
  | n + 1, l7 => (if x6 ≤ l7 then (some (Sum.inl l7)) else (if (t_X5_at (x4 + l7) 65 a42) = (t_X5_at (x5 + l7) 65 a37) then (q_X0_isLike_L46 x4 x5 x6 a42 a37 n (l7 + (1 : Int32))) else (some (Sum.inr (0 : Int32)))))
def q_X0_isLike (x1 : Int32) (x3 : Int32) (a43 : Nat → Int32) (a38 : Nat → Int32) (a42 : Nat → Int32) (a37 : Nat → Int32) : Option Int32 := (if ((t_X0_endOf x3 a38) - (t_X0_endOf (x3 - (1 : Int32)) a38)) = ((t_X0_endOf x1 a43) - (t_X0_endOf (x1 - (1 : Int32)) a43)) then (xlp (q_X0_isLike_L46 (t_X0_endOf (x1 - (1 : Int32)) a43) (t_X0_endOf (x3 - (1 : Int32)) a38) ((t_X0_endOf x1 a43) - (t_X0_endOf (x1 - (1 : Int32)) a43)) a42 a37 10000 (0 : Int32)) (fun y1 => (some (1 : Int32))) (fun y1 => (some y1))) else (some (0 : Int32)))
theorem L_X0_isLike_L46 {S : Nat × (Nat → Int32)} {d : Nat} {z : Bool × Nat × Nat} {c40_3 : Int32} {a43 : Nat → Int32} {c35_3 : Int32} {a38 : Nat → Int32} {c41_1 : Int32} {c36_1 : Int32} {x4 : Int32} {x5 : Int32} {x6 : Int32} {a42 : Nat → Int32} {a37 : Nat → Int32} {H : List xE} (u_40 : H[40]? = some (.inr (0, [.ref 41, .ref 43, .ref 44, .int c40_3]))) (u_43 : H[43]? = some (.inl (0, 65, .inl a43))) (u_35 : H[35]? = some (.inr (0, [.ref 36, .ref 38, .ref 39, .int c35_3]))) (u_38 : H[38]? = some (.inl (0, 65, .inl a38))) (u_41 : H[41]? = some (.inr (4, [.ref 42, .int c41_1]))) (u_42 : H[42]? = some (.inl (0, 65, .inl a42))) (u_36 : H[36]? = some (.inr (4, [.ref 37, .int c36_1]))) (u_37 : H[37]? = some (.inl (0, 65, .inl a37))) : ∀ (n : Nat) (l7 : Int32) x, q_X0_isLike_L46 x4 x5 x6 a42 a37 n l7 = some x → Go S (d + 1) 9 (46, [some (.ref 40), none, some (.ref 35), none, some (.int x4), some (.int x5), some (.int x6), some (.int l7)], []) (H, z) (fun F' M' => ∃ (m : Int32), x = Sum.inl m ∧ F' = (88, [none, none, none, none, none, none, none, none], []) ∧ M' = (H, z)) (fun r => ∃ (c : Int32), x = Sum.inr c ∧ r = (.inr (some (.int c)), (H, z))) := by
  intro n
  induction n with
  | zero =>
    intro l7 x h
    unfold q_X0_isLike_L46 at h
    cases h
  | succ n ih =>
    intro l7 x h
    unfold q_X0_isLike_L46 at h
    refine go_step (fun _ => ev_run 2 (F' := (50, [some (.ref 40), none, some (.ref 35), none, some (.int x4), some (.int x5), some (.int x6), some (.int l7)], [.int x6, .int l7])) rfl) ?_
    refine go_icmp rfl (fun (b50 : x6 ≤ l7) => ?_) (fun (b50 : ¬ (x6 ≤ l7)) => ?_)
    · have h := (if_pos b50).symm.trans h
      refine go_step (fun _ => ev_forget (L' := [none, none, none, none, none, none, none, none]) (show xleP _ [some (.ref 40), none, some (.ref 35), none, some (.int x4), some (.int x5), some (.int x6), some (.int l7)] from trivial) rfl) ?_
      cases h
      exact Or.inl ⟨_, _, fun r hr => hr, _, rfl, rfl, rfl⟩
    · have h := (if_neg b50).symm.trans h
      refine go_step (fun _ => ev_run 1 (F' := (54, [some (.ref 40), none, some (.ref 35), none, some (.int x4), some (.int x5), some (.int x6), some (.int l7)], [.ref 40])) rfl) ?_
      refine go_step (fun _ => ev_getf rfl u_40 rfl) ?_
      refine go_step (fun _ => ev_run 3 (F' := (62, [some (.ref 40), none, some (.ref 35), none, some (.int x4), some (.int x5), some (.int x6), some (.int l7)], [.int (x4 + l7), .ref 41])) rfl) ?_
      refine go_step (F1 := (65, [some (.ref 40), none, some (.ref 35), none, some (.int x4), some (.int x5), some (.int x6), some (.int l7)], [.int (t_X5_at (x4 + l7) 65 a42)])) (M1 := (H, z)) (fun _ => ev_callV (x := (.invokevirtual 28, 3, 55, 4, 1227, .null)) (as := [.int (x4 + l7)]) (rest := []) rfl rfl u_41 (C_X5_at (S := S) (d := d) (z := z) (x1 := (x4 + l7)) u_41 u_42 (by decide)) rfl) ?_
      refine go_step (fun _ => ev_run 1 (F' := (66, [some (.ref 40), none, some (.ref 35), none, some (.int x4), some (.int x5), some (.int x6), some (.int l7)], [.ref 35, .int (t_X5_at (x4 + l7) 65 a42)])) rfl) ?_
      refine go_step (fun _ => ev_getf rfl u_35 rfl) ?_
      refine go_step (fun _ => ev_run 3 (F' := (74, [some (.ref 40), none, some (.ref 35), none, some (.int x4), some (.int x5), some (.int x6), some (.int l7)], [.int (x5 + l7), .ref 36, .int (t_X5_at (x4 + l7) 65 a42)])) rfl) ?_
      refine go_step (F1 := (77, [some (.ref 40), none, some (.ref 35), none, some (.int x4), some (.int x5), some (.int x6), some (.int l7)], [.int (t_X5_at (x5 + l7) 65 a37), .int (t_X5_at (x4 + l7) 65 a42)])) (M1 := (H, z)) (fun _ => ev_callV (x := (.invokevirtual 28, 3, 55, 4, 1227, .null)) (as := [.int (x5 + l7)]) (rest := [.int (t_X5_at (x4 + l7) 65 a42)]) rfl rfl u_36 (C_X5_at (S := S) (d := d) (z := z) (x1 := (x5 + l7)) u_36 u_37 (by decide)) rfl) ?_
      refine go_icmp rfl (fun (b77 : (t_X5_at (x4 + l7) 65 a42) = (t_X5_at (x5 + l7) 65 a37)) => ?_) (fun (b77 : ¬ ((t_X5_at (x4 + l7) 65 a42) = (t_X5_at (x5 + l7) 65 a37))) => ?_)
      · have h := (if_pos b77).symm.trans h
        refine go_step (fun _ => ev_run 2 (F' := (46, [some (.ref 40), none, some (.ref 35), none, some (.int x4), some (.int x5), some (.int x6), some (.int (l7 + (1 : Int32)))], [])) rfl) ?_
        exact ih (l7 + (1 : Int32)) _ h
      · have h := (if_neg b77).symm.trans h
        refine go_step (fun _ => ev_run 1 (F' := (81, [some (.ref 40), none, some (.ref 35), none, some (.int x4), some (.int x5), some (.int x6), some (.int l7)], [.int (0 : Int32)])) rfl) ?_
        cases h
        exact Or.inr ⟨_, ev_ret rfl rfl rfl rfl, _, rfl, rfl⟩
theorem C_X0_isLike {S : Nat × (Nat → Int32)} {d : Nat} {H : List xE} {z : Bool × Nat × Nat} {c40_3 : Int32} {a43 : Nat → Int32} {c35_3 : Int32} {a38 : Nat → Int32} {c41_1 : Int32} {a42 : Nat → Int32} {c36_1 : Int32} {a37 : Nat → Int32} {x1 : Int32} {x3 : Int32} (u_40 : H[40]? = some (.inr (0, [.ref 41, .ref 43, .ref 44, .int c40_3]))) (u_43 : H[43]? = some (.inl (0, 65, .inl a43))) (u_35 : H[35]? = some (.inr (0, [.ref 36, .ref 38, .ref 39, .int c35_3]))) (u_38 : H[38]? = some (.inl (0, 65, .inl a38))) (u_41 : H[41]? = some (.inr (4, [.ref 42, .int c41_1]))) (u_42 : H[42]? = some (.inl (0, 65, .inl a42))) (u_36 : H[36]? = some (.inr (4, [.ref 37, .int c36_1]))) (u_37 : H[37]? = some (.inl (0, 65, .inl a37))) {x : Int32} (h : q_X0_isLike x1 x3 a43 a38 a42 a37 = some x) : Cm S (d + 1) 9 [.ref 40, .int x1, .ref 35, .int x3] (H, z) (.inr (some (.int x)), (H, z)) := by
  have G : Go S (d + 1) 9 (0, [some (.ref 40), some (.int x1), some (.ref 35), some (.int x3), none, none, none, none], []) (H, z) (fun _ _ => False) (fun r => r = (.inr (some (.int x)), (H, z))) := by
    unfold q_X0_isLike at h
    refine go_step (fun _ => ev_run 4 (F' := (4, [some (.ref 40), some (.int x1), some (.ref 35), some (.int x3), none, none, none, none], [.int (x1 - (1 : Int32)), .ref 40])) rfl) ?_
    refine go_step (F1 := (7, [some (.ref 40), some (.int x1), some (.ref 35), some (.int x3), none, none, none, none], [.int (t_X0_endOf (x1 - (1 : Int32)) a43)])) (M1 := (H, z)) (fun _ => ev_callV (x := (.invokevirtual 64, 3, 4, 0, 1270, .null)) (as := [.int (x1 - (1 : Int32))]) (rest := []) rfl rfl u_40 (C_X0_endOf (S := S) (d := d) (z := z) (x1 := (x1 - (1 : Int32))) u_40 u_43) rfl) ?_
    refine go_step (fun _ => ev_run 5 (F' := (13, [some (.ref 40), some (.int x1), some (.ref 35), some (.int x3), some (.int (t_X0_endOf (x1 - (1 : Int32)) a43)), none, none, none], [.int (x3 - (1 : Int32)), .ref 35])) rfl) ?_
    refine go_step (F1 := (16, [some (.ref 40), some (.int x1), some (.ref 35), some (.int x3), some (.int (t_X0_endOf (x1 - (1 : Int32)) a43)), none, none, none], [.int (t_X0_endOf (x3 - (1 : Int32)) a38)])) (M1 := (H, z)) (fun _ => ev_callV (x := (.invokevirtual 64, 3, 4, 0, 1270, .null)) (as := [.int (x3 - (1 : Int32))]) (rest := []) rfl rfl u_35 (C_X0_endOf (S := S) (d := d) (z := z) (x1 := (x3 - (1 : Int32))) u_35 u_38) rfl) ?_
    refine go_step (fun _ => ev_run 3 (F' := (20, [some (.ref 40), some (.int x1), some (.ref 35), some (.int x3), some (.int (t_X0_endOf (x1 - (1 : Int32)) a43)), some (.int (t_X0_endOf (x3 - (1 : Int32)) a38)), none, none], [.int x1, .ref 40])) rfl) ?_
    refine go_step (F1 := (23, [some (.ref 40), some (.int x1), some (.ref 35), some (.int x3), some (.int (t_X0_endOf (x1 - (1 : Int32)) a43)), some (.int (t_X0_endOf (x3 - (1 : Int32)) a38)), none, none], [.int (t_X0_endOf x1 a43)])) (M1 := (H, z)) (fun _ => ev_callV (x := (.invokevirtual 64, 3, 4, 0, 1270, .null)) (as := [.int x1]) (rest := []) rfl rfl u_40 (C_X0_endOf (S := S) (d := d) (z := z) (x1 := x1) u_40 u_43) rfl) ?_
    refine go_step (fun _ => ev_run 5 (F' := (30, [some (.ref 40), some (.int x1), some (.ref 35), some (.int x3), some (.int (t_X0_endOf (x1 - (1 : Int32)) a43)), some (.int (t_X0_endOf (x3 - (1 : Int32)) a38)), some (.int ((t_X0_endOf x1 a43) - (t_X0_endOf (x1 - (1 : Int32)) a43))), none], [.int x3, .ref 35])) rfl) ?_
    refine go_step (F1 := (33, [some (.ref 40), some (.int x1), some (.ref 35), some (.int x3), some (.int (t_X0_endOf (x1 - (1 : Int32)) a43)), some (.int (t_X0_endOf (x3 - (1 : Int32)) a38)), some (.int ((t_X0_endOf x1 a43) - (t_X0_endOf (x1 - (1 : Int32)) a43))), none], [.int (t_X0_endOf x3 a38)])) (M1 := (H, z)) (fun _ => ev_callV (x := (.invokevirtual 64, 3, 4, 0, 1270, .null)) (as := [.int x3]) (rest := []) rfl rfl u_35 (C_X0_endOf (S := S) (d := d) (z := z) (x1 := x3) u_35 u_38) rfl) ?_
    refine go_step (fun _ => ev_run 3 (F' := (38, [some (.ref 40), some (.int x1), some (.ref 35), some (.int x3), some (.int (t_X0_endOf (x1 - (1 : Int32)) a43)), some (.int (t_X0_endOf (x3 - (1 : Int32)) a38)), some (.int ((t_X0_endOf x1 a43) - (t_X0_endOf (x1 - (1 : Int32)) a43))), none], [.int ((t_X0_endOf x1 a43) - (t_X0_endOf (x1 - (1 : Int32)) a43)), .int ((t_X0_endOf x3 a38) - (t_X0_endOf (x3 - (1 : Int32)) a38))])) rfl) ?_
    refine go_icmp rfl (fun (b38 : ((t_X0_endOf x3 a38) - (t_X0_endOf (x3 - (1 : Int32)) a38)) = ((t_X0_endOf x1 a43) - (t_X0_endOf (x1 - (1 : Int32)) a43))) => ?_) (fun (b38 : ¬ (((t_X0_endOf x3 a38) - (t_X0_endOf (x3 - (1 : Int32)) a38)) = ((t_X0_endOf x1 a43) - (t_X0_endOf (x1 - (1 : Int32)) a43)))) => ?_)
    · have h := (if_pos b38).symm.trans h
      refine go_step (fun _ => ev_run 2 (F' := (46, [some (.ref 40), some (.int x1), some (.ref 35), some (.int x3), some (.int (t_X0_endOf (x1 - (1 : Int32)) a43)), some (.int (t_X0_endOf (x3 - (1 : Int32)) a38)), some (.int ((t_X0_endOf x1 a43) - (t_X0_endOf (x1 - (1 : Int32)) a43))), some (.int (0 : Int32))], [])) rfl) ?_
      refine go_step (fun _ => ev_forget (L' := [some (.ref 40), none, some (.ref 35), none, some (.int (t_X0_endOf (x1 - (1 : Int32)) a43)), some (.int (t_X0_endOf (x3 - (1 : Int32)) a38)), some (.int ((t_X0_endOf x1 a43) - (t_X0_endOf (x1 - (1 : Int32)) a43))), some (.int (0 : Int32))]) (show xleP _ [some (.ref 40), some (.int x1), some (.ref 35), some (.int x3), some (.int (t_X0_endOf (x1 - (1 : Int32)) a43)), some (.int (t_X0_endOf (x3 - (1 : Int32)) a38)), some (.int ((t_X0_endOf x1 a43) - (t_X0_endOf (x1 - (1 : Int32)) a43))), some (.int (0 : Int32))] from ⟨rfl, ⟨rfl, ⟨rfl, ⟨rfl, ⟨rfl, ⟨rfl, trivial⟩⟩⟩⟩⟩⟩) rfl) ?_
      rcases okl h with ⟨y1, hy1, h⟩ | ⟨y1, hy1, h⟩
      · rcases L_X0_isLike_L46 (S := S) (d := d) (z := z) (x4 := (t_X0_endOf (x1 - (1 : Int32)) a43)) (x5 := (t_X0_endOf (x3 - (1 : Int32)) a38)) (x6 := ((t_X0_endOf x1 a43) - (t_X0_endOf (x1 - (1 : Int32)) a43))) u_40 u_43 u_35 u_38 u_41 u_42 u_36 u_37 10000 (0 : Int32) _ hy1 with ⟨_, _, hr2, _, hx3, rfl, rfl⟩ | ⟨_, _, _, hx3, _⟩
        · cases hx3
          refine go_step hr2 ?_
          refine go_step (fun _ => ev_run 1 (F' := (89, [none, none, none, none, none, none, none, none], [.int (1 : Int32)])) rfl) ?_
          cases h
          exact Or.inr ⟨_, ev_ret rfl rfl rfl rfl, rfl⟩
        · cases hx3
      · rcases L_X0_isLike_L46 (S := S) (d := d) (z := z) (x4 := (t_X0_endOf (x1 - (1 : Int32)) a43)) (x5 := (t_X0_endOf (x3 - (1 : Int32)) a38)) (x6 := ((t_X0_endOf x1 a43) - (t_X0_endOf (x1 - (1 : Int32)) a43))) u_40 u_43 u_35 u_38 u_41 u_42 u_36 u_37 10000 (0 : Int32) _ hy1 with ⟨_, _, _, _, hx3, _⟩ | ⟨_, hE5, _, hx3, rfl⟩
        · cases hx3
        · cases hx3
          cases h
          exact Or.inr ⟨_, hE5, rfl⟩
    · have h := (if_neg b38).symm.trans h
      refine go_step (fun _ => ev_run 1 (F' := (42, [some (.ref 40), some (.int x1), some (.ref 35), some (.int x3), some (.int (t_X0_endOf (x1 - (1 : Int32)) a43)), some (.int (t_X0_endOf (x3 - (1 : Int32)) a38)), some (.int ((t_X0_endOf x1 a43) - (t_X0_endOf (x1 - (1 : Int32)) a43))), none], [.int (0 : Int32)])) rfl) ?_
      cases h
      exact Or.inr ⟨_, ev_ret rfl rfl rfl rfl, rfl⟩
  obtain ⟨_, hE, rfl⟩ := go_end G
  exact hE
def q_X0_takes_L2 (x2 : Int32) (c40_3 : Int32) (a43 : Nat → Int32) (a38 : Nat → Int32) (a42 : Nat → Int32) (a37 : Nat → Int32) : Nat → Int32 → (Nat → Int32) → Option ((Int32 × (Nat → Int32)) ⊕ (Int32 × (Nat → Int32)))
  | 0, _, _ => none
  | n + 1, l3, a44 => (if c40_3 ≤ l3 then (some (Sum.inl (l3, a44))) else (if (nI 65) ≤ l3 then (some (Sum.inl (l3, a44))) else (if xin l3 65 = true then (if ¬ (a44 l3.toNatClampNeg) = (0 : Int32) then (q_X0_takes_L2 x2 c40_3 a43 a38 a42 a37 n (l3 + (1 : Int32)) a44) else ((q_X0_isLike l3 x2 a43 a38 a42 a37).bind (fun y1 => (if y1 = (0 : Int32) then (q_X0_takes_L2 x2 c40_3 a43 a38 a42 a37 n (l3 + (1 : Int32)) a44) else (if xin l3 65 = true then (some (Sum.inr ((1 : Int32), (upd a44 l3.toNatClampNeg (vp_nar .boolean (1 : Int32)))))) else none))))) else none)))
def q_X0_takes (x2 : Int32) (c40_3 : Int32) (a44 : Nat → Int32) (a43 : Nat → Int32) (a38 : Nat → Int32) (a42 : Nat → Int32) (a37 : Nat → Int32) : Option (Int32 × (Nat → Int32)) := (xlp (q_X0_takes_L2 x2 c40_3 a43 a38 a42 a37 10000 (0 : Int32) a44) (fun y1 => (some ((0 : Int32), y1.2))) (fun y1 => (some (y1.1, y1.2))))
theorem L_X0_takes_L2 {S : Nat × (Nat → Int32)} {d : Nat} {z : Bool × Nat × Nat} {c35_3 : Int32} {c41_1 : Int32} {c36_1 : Int32} {x2 : Int32} {c40_3 : Int32} {a43 : Nat → Int32} {a38 : Nat → Int32} {a42 : Nat → Int32} {a37 : Nat → Int32} {H0 : List xE} (u_40 : H0[40]? = some (.inr (0, [.ref 41, .ref 43, .ref 44, .int c40_3]))) (u_43 : H0[43]? = some (.inl (0, 65, .inl a43))) (u_38 : H0[38]? = some (.inl (0, 65, .inl a38))) (u_42 : H0[42]? = some (.inl (0, 65, .inl a42))) (u_37 : H0[37]? = some (.inl (0, 65, .inl a37))) (u_35 : H0[35]? = some (.inr (0, [.ref 36, .ref 38, .ref 39, .int c35_3]))) (u_41 : H0[41]? = some (.inr (4, [.ref 42, .int c41_1]))) (u_36 : H0[36]? = some (.inr (4, [.ref 37, .int c36_1]))) : ∀ (n : Nat) (l3 : Int32) (a44 : Nat → Int32) (H : List xE), xfr [44] H0 H → H[44]? = some (.inl (2, 65, .inl a44)) → ∀ x, q_X0_takes_L2 x2 c40_3 a43 a38 a42 a37 n l3 a44 = some x → Go S (d + 2) 8 (2, [some (.ref 40), some (.ref 35), some (.int x2), some (.int l3)], []) (H, z) (fun F' M' => ∃ (m : (Int32 × (Nat → Int32))) (H' : List xE), x = Sum.inl m ∧ F' = (53, [none, none, none, none], []) ∧ M' = (H', z) ∧ H'[44]? = some (.inl (2, 65, .inl m.2)) ∧ xfr [44] H0 H') (fun r => ∃ (c : (Int32 × (Nat → Int32))) (H' : List xE), x = Sum.inr c ∧ r = (.inr (some (.int c.1)), (H', z)) ∧ H'[44]? = some (.inl (2, 65, .inl c.2)) ∧ xfr [44] H0 H') := by
  intro n
  induction n with
  | zero =>
    intro l3 a44 H fr e_44 x h
    unfold q_X0_takes_L2 at h
    cases h
  | succ n ih =>
    intro l3 a44 H fr e_44 x h
    unfold q_X0_takes_L2 at h
    refine go_step (fun _ => ev_run 2 (F' := (4, [some (.ref 40), some (.ref 35), some (.int x2), some (.int l3)], [.ref 40, .int l3])) rfl) ?_
    refine go_step (fun _ => ev_getf rfl ((fr 40 rfl).trans u_40) rfl) ?_
    refine go_icmp rfl (fun (b7 : c40_3 ≤ l3) => ?_) (fun (b7 : ¬ (c40_3 ≤ l3)) => ?_)
    · have h := (if_pos b7).symm.trans h
      refine go_step (fun _ => ev_forget (L' := [none, none, none, none]) (show xleP _ [some (.ref 40), some (.ref 35), some (.int x2), some (.int l3)] from trivial) rfl) ?_
      cases h
      exact Or.inl ⟨_, _, fun r hr => hr, _, H, rfl, rfl, rfl, e_44, fr⟩
    · have h := (if_neg b7).symm.trans h
      refine go_step (fun _ => ev_run 2 (F' := (12, [some (.ref 40), some (.ref 35), some (.int x2), some (.int l3)], [.ref 40, .int l3])) rfl) ?_
      refine go_step (fun _ => ev_getf rfl ((fr 40 rfl).trans u_40) rfl) ?_
      refine go_step (fun _ => ev_alen rfl e_44 rfl) ?_
      refine go_icmp rfl (fun (b16 : (nI 65) ≤ l3) => ?_) (fun (b16 : ¬ ((nI 65) ≤ l3)) => ?_)
      · have h := (if_pos b16).symm.trans h
        refine go_step (fun _ => ev_forget (L' := [none, none, none, none]) (show xleP _ [some (.ref 40), some (.ref 35), some (.int x2), some (.int l3)] from trivial) rfl) ?_
        cases h
        exact Or.inl ⟨_, _, fun r hr => hr, _, H, rfl, rfl, rfl, e_44, fr⟩
      · have h := (if_neg b16).symm.trans h
        refine go_step (fun _ => ev_run 1 (F' := (20, [some (.ref 40), some (.ref 35), some (.int x2), some (.int l3)], [.ref 40])) rfl) ?_
        refine go_step (fun _ => ev_getf rfl ((fr 40 rfl).trans u_40) rfl) ?_
        refine go_step (fun _ => ev_run 1 (F' := (24, [some (.ref 40), some (.ref 35), some (.int x2), some (.int l3)], [.int l3, .ref 44])) rfl) ?_
        obtain ⟨g24, h⟩ := okg h
        refine go_step (fun _ => ev_bald rfl e_44 g24) ?_
        refine go_if rfl (fun (b25 : ¬ (a44 l3.toNatClampNeg) = (0 : Int32)) => ?_) (fun (b25 : ¬ (¬ (a44 l3.toNatClampNeg) = (0 : Int32))) => ?_)
        · have h := (if_pos b25).symm.trans h
          refine go_step (fun _ => ev_run 2 (F' := (2, [some (.ref 40), some (.ref 35), some (.int x2), some (.int (l3 + (1 : Int32)))], [])) rfl) ?_
          exact ih (l3 + (1 : Int32)) a44 H fr e_44 _ h
        · have h := (if_neg b25).symm.trans h
          refine go_step (fun _ => ev_run 4 (F' := (32, [some (.ref 40), some (.ref 35), some (.int x2), some (.int l3)], [.int x2, .ref 35, .int l3, .ref 40])) rfl) ?_
          obtain ⟨y1, hy1, h⟩ := okb h
          refine go_step (F1 := (35, [some (.ref 40), some (.ref 35), some (.int x2), some (.int l3)], [.int y1])) (M1 := (H, z)) (fun _ => ev_callV (x := (.invokevirtual 60, 3, 9, 0, 1266, .null)) (as := [.int l3, .ref 35, .int x2]) (rest := []) rfl rfl ((fr 40 rfl).trans u_40) (C_X0_isLike (S := S) (d := d) (z := z) (x1 := l3) (x3 := x2) ((fr 40 rfl).trans u_40) ((fr 43 rfl).trans u_43) ((fr 35 rfl).trans u_35) ((fr 38 rfl).trans u_38) ((fr 41 rfl).trans u_41) ((fr 42 rfl).trans u_42) ((fr 36 rfl).trans u_36) ((fr 37 rfl).trans u_37) hy1) rfl) ?_
          refine go_if rfl (fun (b35 : y1 = (0 : Int32)) => ?_) (fun (b35 : ¬ (y1 = (0 : Int32))) => ?_)
          · have h := (if_pos b35).symm.trans h
            refine go_step (fun _ => ev_run 2 (F' := (2, [some (.ref 40), some (.ref 35), some (.int x2), some (.int (l3 + (1 : Int32)))], [])) rfl) ?_
            exact ih (l3 + (1 : Int32)) a44 H fr e_44 _ h
          · have h := (if_neg b35).symm.trans h
            refine go_step (fun _ => ev_run 1 (F' := (39, [some (.ref 40), some (.ref 35), some (.int x2), some (.int l3)], [.ref 40])) rfl) ?_
            refine go_step (fun _ => ev_getf rfl ((fr 40 rfl).trans u_40) rfl) ?_
            refine go_step (fun _ => ev_run 2 (F' := (44, [some (.ref 40), some (.ref 35), some (.int x2), some (.int l3)], [.int (1 : Int32), .int l3, .ref 44])) rfl) ?_
            obtain ⟨g44, h⟩ := okg h
            refine go_bast rfl e_44 g44 (fun H2 (eH2 : H2[44]? = some (.inl (2, 65, .inl (upd a44 l3.toNatClampNeg (vp_nar .boolean (1 : Int32)))))) fH2 => ?_)
            refine go_step (fun _ => ev_run 1 (F' := (46, [some (.ref 40), some (.ref 35), some (.int x2), some (.int l3)], [.int (1 : Int32)])) rfl) ?_
            cases h
            exact Or.inr ⟨_, ev_ret rfl rfl rfl rfl, _, H2, rfl, rfl, eH2, (xfr_t fr rfl fH2)⟩
theorem C_X0_takes {S : Nat × (Nat → Int32)} {d : Nat} {H : List xE} {z : Bool × Nat × Nat} {c40_3 : Int32} {a44 : Nat → Int32} {a43 : Nat → Int32} {a38 : Nat → Int32} {a42 : Nat → Int32} {a37 : Nat → Int32} {c35_3 : Int32} {c41_1 : Int32} {c36_1 : Int32} {x2 : Int32} (u_40 : H[40]? = some (.inr (0, [.ref 41, .ref 43, .ref 44, .int c40_3]))) (u_44 : H[44]? = some (.inl (2, 65, .inl a44))) (u_43 : H[43]? = some (.inl (0, 65, .inl a43))) (u_38 : H[38]? = some (.inl (0, 65, .inl a38))) (u_42 : H[42]? = some (.inl (0, 65, .inl a42))) (u_37 : H[37]? = some (.inl (0, 65, .inl a37))) (u_35 : H[35]? = some (.inr (0, [.ref 36, .ref 38, .ref 39, .int c35_3]))) (u_41 : H[41]? = some (.inr (4, [.ref 42, .int c41_1]))) (u_36 : H[36]? = some (.inr (4, [.ref 37, .int c36_1]))) {x : (Int32 × (Nat → Int32))} (h : q_X0_takes x2 c40_3 a44 a43 a38 a42 a37 = some x) : ∃ H' : List xE, Cm S (d + 2) 8 [.ref 40, .ref 35, .int x2] (H, z) (.inr (some (.int x.1)), (H', z)) ∧ H'[44]? = some (.inl (2, 65, .inl x.2)) ∧ xfr [44] H H' := by
  have G : Go S (d + 2) 8 (0, [some (.ref 40), some (.ref 35), some (.int x2), none], []) (H, z) (fun _ _ => False) (fun r => ∃ H' : List xE, r = (.inr (some (.int x.1)), (H', z)) ∧ H'[44]? = some (.inl (2, 65, .inl x.2)) ∧ xfr [44] H H') := by
    unfold q_X0_takes at h
    refine go_step (fun _ => ev_run 2 (F' := (2, [some (.ref 40), some (.ref 35), some (.int x2), some (.int (0 : Int32))], [])) rfl) ?_
    rcases okl h with ⟨y1, hy1, h⟩ | ⟨y1, hy1, h⟩
    · rcases L_X0_takes_L2 (S := S) (d := d) (z := z) (x2 := x2) u_40 u_43 u_38 u_42 u_37 u_35 u_41 u_36 10000 (0 : Int32) a44 H xfr_refl u_44 _ hy1 with ⟨_, _, hr2, _, H4, hx3, rfl, rfl, eH4_44, fH4⟩ | ⟨_, _, _, _, hx3, _⟩
      · cases hx3
        refine go_step hr2 ?_
        refine go_step (fun _ => ev_run 1 (F' := (54, [none, none, none, none], [.int (0 : Int32)])) rfl) ?_
        cases h
        exact Or.inr ⟨_, ev_ret rfl rfl rfl rfl, H4, rfl, eH4_44, (xfr_t xfr_refl rfl fH4)⟩
      · cases hx3
    · rcases L_X0_takes_L2 (S := S) (d := d) (z := z) (x2 := x2) u_40 u_43 u_38 u_42 u_37 u_35 u_41 u_36 10000 (0 : Int32) a44 H xfr_refl u_44 _ hy1 with ⟨_, _, _, _, _, hx3, _⟩ | ⟨_, hE6, _, H7, hx3, rfl, eH7_44, fH7⟩
      · cases hx3
      · cases hx3
        cases h
        exact Or.inr ⟨_, hE6, H7, rfl, eH7_44, (xfr_t xfr_refl rfl fH7)⟩
  obtain ⟨_, hE, H', rfl, hrest⟩ := go_end G
  exact ⟨H', hE, hrest⟩
def q_X0_countIn_L8 (c40_3 : Int32) (c35_3 : Int32) (a43 : Nat → Int32) (a38 : Nat → Int32) (a42 : Nat → Int32) (a37 : Nat → Int32) : Nat → Int32 → Int32 → (Nat → Int32) → Option (Int32 × Int32 × (Nat → Int32))
  | 0, _, _, _ => none
  | n + 1, l2, l3, a44 => (if c35_3 ≤ l3 then (some (l2, l3, a44)) else ((q_X0_takes l3 c40_3 a44 a43 a38 a42 a37).bind (fun y1 => (q_X0_countIn_L8 c40_3 c35_3 a43 a38 a42 a37 n (l2 + (if y1.1 = (0 : Int32) then (0 : Int32) else (1 : Int32))) (l3 + (1 : Int32)) y1.2))))
def q_X0_countIn (a44 : Nat → Int32) (c40_3 : Int32) (c35_3 : Int32) (a43 : Nat → Int32) (a38 : Nat → Int32) (a42 : Nat → Int32) (a37 : Nat → Int32) : Option (Int32 × (Nat → Int32)) := ((q_X0_freeAll a44).bind (fun y1 => ((q_X0_countIn_L8 c40_3 c35_3 a43 a38 a42 a37 10000 (0 : Int32) (0 : Int32) y1).bind (fun y3 => (some (y3.1, y3.2.2))))))
theorem L_X0_countIn_L8 {S : Nat × (Nat → Int32)} {d : Nat} {z : Bool × Nat × Nat} {c41_1 : Int32} {c36_1 : Int32} {c40_3 : Int32} {c35_3 : Int32} {a43 : Nat → Int32} {a38 : Nat → Int32} {a42 : Nat → Int32} {a37 : Nat → Int32} {H0 : List xE} (u_40 : H0[40]? = some (.inr (0, [.ref 41, .ref 43, .ref 44, .int c40_3]))) (u_35 : H0[35]? = some (.inr (0, [.ref 36, .ref 38, .ref 39, .int c35_3]))) (u_43 : H0[43]? = some (.inl (0, 65, .inl a43))) (u_38 : H0[38]? = some (.inl (0, 65, .inl a38))) (u_42 : H0[42]? = some (.inl (0, 65, .inl a42))) (u_37 : H0[37]? = some (.inl (0, 65, .inl a37))) (u_41 : H0[41]? = some (.inr (4, [.ref 42, .int c41_1]))) (u_36 : H0[36]? = some (.inr (4, [.ref 37, .int c36_1]))) : ∀ (n : Nat) (l2 : Int32) (l3 : Int32) (a44 : Nat → Int32) (H : List xE), xfr [44] H0 H → H[44]? = some (.inl (2, 65, .inl a44)) → ∀ x, q_X0_countIn_L8 c40_3 c35_3 a43 a38 a42 a37 n l2 l3 a44 = some x → Go S (d + 3) 5 (8, [some (.ref 35), some (.ref 40), some (.int l2), some (.int l3)], []) (H, z) (fun F' M' => ∃ H' : List xE, F' = (39, [none, none, some (.int x.1), none], []) ∧ M' = (H', z) ∧ H'[44]? = some (.inl (2, 65, .inl x.2.2)) ∧ xfr [44] H0 H') (fun _ => False) := by
  intro n
  induction n with
  | zero =>
    intro l2 l3 a44 H fr e_44 x h
    unfold q_X0_countIn_L8 at h
    cases h
  | succ n ih =>
    intro l2 l3 a44 H fr e_44 x h
    unfold q_X0_countIn_L8 at h
    refine go_step (fun _ => ev_run 2 (F' := (10, [some (.ref 35), some (.ref 40), some (.int l2), some (.int l3)], [.ref 35, .int l3])) rfl) ?_
    refine go_step (fun _ => ev_getf rfl ((fr 35 rfl).trans u_35) rfl) ?_
    refine go_icmp rfl (fun (b13 : c35_3 ≤ l3) => ?_) (fun (b13 : ¬ (c35_3 ≤ l3)) => ?_)
    · have h := (if_pos b13).symm.trans h
      refine go_step (fun _ => ev_forget (L' := [none, none, some (.int l2), none]) (show xleP _ [some (.ref 35), some (.ref 40), some (.int l2), some (.int l3)] from ⟨rfl, trivial⟩) rfl) ?_
      cases h
      exact Or.inl ⟨_, _, fun r hr => hr, H, rfl, rfl, e_44, fr⟩
    · have h := (if_neg b13).symm.trans h
      refine go_step (fun _ => ev_run 4 (F' := (20, [some (.ref 35), some (.ref 40), some (.int l2), some (.int l3)], [.int l3, .ref 35, .ref 40, .int l2])) rfl) ?_
      obtain ⟨y1, hy1, h⟩ := okb h
      obtain ⟨H2, hCH2, eH2_44, fH2⟩ := C_X0_takes (S := S) (d := d) (z := z) (x2 := l3) ((fr 40 rfl).trans u_40) e_44 ((fr 43 rfl).trans u_43) ((fr 38 rfl).trans u_38) ((fr 42 rfl).trans u_42) ((fr 37 rfl).trans u_37) ((fr 35 rfl).trans u_35) ((fr 41 rfl).trans u_41) ((fr 36 rfl).trans u_36) hy1
      refine go_step (F1 := (23, [some (.ref 35), some (.ref 40), some (.int l2), some (.int l3)], [.int y1.1, .int l2])) (M1 := (H2, z)) (fun _ => ev_callV (x := (.invokevirtual 52, 3, 8, 0, 1262, .null)) (as := [.ref 35, .int l3]) (rest := [.int l2]) rfl rfl ((fr 40 rfl).trans u_40) hCH2 rfl) ?_
      refine go_step (F1 := (31, [some (.ref 35), some (.ref 40), none, some (.int l3)], [.int (if y1.1 = (0 : Int32) then (0 : Int32) else (1 : Int32)), .int l2])) (M1 := (H2, z)) (fun r K => ?_) ?_
      · skip
        refine ev_if rfl (fun (b23 : y1.1 = (0 : Int32)) => ?_) (fun (b23 : ¬ (y1.1 = (0 : Int32))) => ?_)
        · skip
          refine ev_run 1 (F' := (31, [some (.ref 35), some (.ref 40), some (.int l2), some (.int l3)], [.int (0 : Int32), .int l2])) rfl ?_
          refine ev_forget (L' := [some (.ref 35), some (.ref 40), none, some (.int l3)]) (show xleP _ [some (.ref 35), some (.ref 40), some (.int l2), some (.int l3)] from ⟨rfl, ⟨rfl, ⟨rfl, trivial⟩⟩⟩) rfl ?_
          exact ev_cast (show ((31, [some (.ref 35), some (.ref 40), none, some (.int l3)], [.int (0 : Int32), .int l2]) : xF) = (31, [some (.ref 35), some (.ref 40), none, some (.int l3)], [.int (if y1.1 = (0 : Int32) then (0 : Int32) else (1 : Int32)), .int l2]) by first | (simp only [if_pos b23]; done) | rfl) rfl K
        · skip
          refine ev_run 2 (F' := (31, [some (.ref 35), some (.ref 40), some (.int l2), some (.int l3)], [.int (1 : Int32), .int l2])) rfl ?_
          refine ev_forget (L' := [some (.ref 35), some (.ref 40), none, some (.int l3)]) (show xleP _ [some (.ref 35), some (.ref 40), some (.int l2), some (.int l3)] from ⟨rfl, ⟨rfl, ⟨rfl, trivial⟩⟩⟩) rfl ?_
          exact ev_cast (show ((31, [some (.ref 35), some (.ref 40), none, some (.int l3)], [.int (1 : Int32), .int l2]) : xF) = (31, [some (.ref 35), some (.ref 40), none, some (.int l3)], [.int (if y1.1 = (0 : Int32) then (0 : Int32) else (1 : Int32)), .int l2]) by first | (simp only [if_neg b23]; done) | rfl) rfl K
      refine go_step (fun _ => ev_run 4 (F' := (8, [some (.ref 35), some (.ref 40), some (.int (l2 + (if y1.1 = (0 : Int32) then (0 : Int32) else (1 : Int32)))), some (.int (l3 + (1 : Int32)))], [])) rfl) ?_
      exact ih (l2 + (if y1.1 = (0 : Int32) then (0 : Int32) else (1 : Int32))) (l3 + (1 : Int32)) y1.2 H2 (xfr_t fr rfl fH2) eH2_44 _ h
theorem C_X0_countIn {S : Nat × (Nat → Int32)} {d : Nat} {H : List xE} {z : Bool × Nat × Nat} {a44 : Nat → Int32} {c40_3 : Int32} {c35_3 : Int32} {a43 : Nat → Int32} {a38 : Nat → Int32} {a42 : Nat → Int32} {a37 : Nat → Int32} {c41_1 : Int32} {c36_1 : Int32} (u_44 : H[44]? = some (.inl (2, 65, .inl a44))) (u_40 : H[40]? = some (.inr (0, [.ref 41, .ref 43, .ref 44, .int c40_3]))) (u_35 : H[35]? = some (.inr (0, [.ref 36, .ref 38, .ref 39, .int c35_3]))) (u_43 : H[43]? = some (.inl (0, 65, .inl a43))) (u_38 : H[38]? = some (.inl (0, 65, .inl a38))) (u_42 : H[42]? = some (.inl (0, 65, .inl a42))) (u_37 : H[37]? = some (.inl (0, 65, .inl a37))) (u_41 : H[41]? = some (.inr (4, [.ref 42, .int c41_1]))) (u_36 : H[36]? = some (.inr (4, [.ref 37, .int c36_1]))) {x : (Int32 × (Nat → Int32))} (h : q_X0_countIn a44 c40_3 c35_3 a43 a38 a42 a37 = some x) : ∃ H' : List xE, Cm S (d + 3) 5 [.ref 35, .ref 40] (H, z) (.inr (some (.int x.1)), (H', z)) ∧ H'[44]? = some (.inl (2, 65, .inl x.2)) ∧ xfr [44] H H' := by
  have G : Go S (d + 3) 5 (0, [some (.ref 35), some (.ref 40), none, none], []) (H, z) (fun _ _ => False) (fun r => ∃ H' : List xE, r = (.inr (some (.int x.1)), (H', z)) ∧ H'[44]? = some (.inl (2, 65, .inl x.2)) ∧ xfr [44] H H') := by
    unfold q_X0_countIn at h
    refine go_step (fun _ => ev_run 3 (F' := (3, [some (.ref 35), some (.ref 40), some (.int (0 : Int32)), none], [.ref 40])) rfl) ?_
    obtain ⟨y1, hy1, h⟩ := okb h
    obtain ⟨H2, hCH2, eH2_44, fH2⟩ := C_X0_freeAll (S := S) (d := d + 2) (z := z) u_40 u_44 hy1
    refine go_step (F1 := (6, [some (.ref 35), some (.ref 40), some (.int (0 : Int32)), none], [])) (M1 := (H2, z)) (fun _ => ev_callV (x := (.invokevirtual 49, 3, 7, 0, 1258, .null)) (as := []) (rest := []) rfl rfl u_40 hCH2 rfl) ?_
    refine go_step (fun _ => ev_run 2 (F' := (8, [some (.ref 35), some (.ref 40), some (.int (0 : Int32)), some (.int (0 : Int32))], [])) rfl) ?_
    obtain ⟨y3, hy3, h⟩ := okb h
    obtain ⟨_, _, hr5, H4, rfl, rfl, eH4_44, fH4⟩ := go_nr (L_X0_countIn_L8 (S := S) (d := d) (z := z) ((fH2 40 rfl).trans u_40) ((fH2 35 rfl).trans u_35) ((fH2 43 rfl).trans u_43) ((fH2 38 rfl).trans u_38) ((fH2 42 rfl).trans u_42) ((fH2 37 rfl).trans u_37) ((fH2 41 rfl).trans u_41) ((fH2 36 rfl).trans u_36) 10000 (0 : Int32) (0 : Int32) y1 H2 xfr_refl eH2_44 _ hy3)
    refine go_step hr5 ?_
    refine go_step (fun _ => ev_run 1 (F' := (40, [none, none, some (.int y3.1), none], [.int y3.1])) rfl) ?_
    cases h
    exact Or.inr ⟨_, ev_ret rfl rfl rfl rfl, H4, rfl, eH4_44, (xfr_t (xfr_t xfr_refl rfl fH2) rfl fH4)⟩
  obtain ⟨_, hE, H', rfl, hrest⟩ := go_end G
  exact ⟨H', hE, hrest⟩
def t_X10_has (x1 : Int32) (c23_4 : Int32) : Int32 := (if x1 < (0 : Int32) then (0 : Int32) else (if c23_4 ≤ x1 then (0 : Int32) else (1 : Int32)))
theorem C_X10_has {S : Nat × (Nat → Int32)} {d : Nat} {H : List xE} {z : Bool × Nat × Nat} {c23_4 : Int32} {x1 : Int32} (u_23 : H[23]? = some (.inr (9, [.ref 24, .ref 27, .ref 29, .ref 31, .int c23_4]))) : Cm S d 92 [.ref 23, .int x1] (H, z) (.inr (some (.int (t_X10_has x1 c23_4))), (H, z)) := by
  have G : ∀ x, t_X10_has x1 c23_4 = x → Go S d 92 (0, [some (.ref 23), some (.int x1)], []) (H, z) (fun _ _ => False) (fun r => r = (.inr (some (.int x)), (H, z))) := by
    intro x h
    unfold t_X10_has at h
    refine go_step (fun _ => ev_run 1 (F' := (1, [some (.ref 23), some (.int x1)], [.int x1])) rfl) ?_
    refine go_if rfl (fun (b1 : x1 < (0 : Int32)) => ?_) (fun (b1 : ¬ (x1 < (0 : Int32))) => ?_)
    · have h := (if_pos b1).symm.trans h
      refine go_step (fun _ => ev_run 1 (F' := (17, [some (.ref 23), some (.int x1)], [.int (0 : Int32)])) rfl) ?_
      cases h
      exact Or.inr ⟨_, ev_ret rfl rfl rfl rfl, rfl⟩
    · have h := (if_neg b1).symm.trans h
      refine go_step (fun _ => ev_run 2 (F' := (6, [some (.ref 23), some (.int x1)], [.ref 23, .int x1])) rfl) ?_
      refine go_step (fun _ => ev_getf rfl u_23 rfl) ?_
      refine go_icmp rfl (fun (b9 : c23_4 ≤ x1) => ?_) (fun (b9 : ¬ (c23_4 ≤ x1)) => ?_)
      · have h := (if_pos b9).symm.trans h
        refine go_step (fun _ => ev_run 1 (F' := (17, [some (.ref 23), some (.int x1)], [.int (0 : Int32)])) rfl) ?_
        cases h
        exact Or.inr ⟨_, ev_ret rfl rfl rfl rfl, rfl⟩
      · have h := (if_neg b9).symm.trans h
        refine go_step (fun _ => ev_run 2 (F' := (17, [some (.ref 23), some (.int x1)], [.int (1 : Int32)])) rfl) ?_
        cases h
        exact Or.inr ⟨_, ev_ret rfl rfl rfl rfl, rfl⟩
  obtain ⟨_, hE, rfl⟩ := go_end (G _ rfl)
  exact hE
theorem b_X10_has (x1 : Int32) (c23_4 : Int32) : t_X10_has x1 c23_4 = 0 ∨ t_X10_has x1 c23_4 = 1 := by
  unfold t_X10_has
  (repeat' split) <;> first | exact Or.inl rfl | exact Or.inr rfl | skip
def t_X10_isFull (c23_4 : Int32) : Int32 := (if c23_4 < (20 : Int32) then (0 : Int32) else (1 : Int32))
theorem C_X10_isFull {S : Nat × (Nat → Int32)} {d : Nat} {H : List xE} {z : Bool × Nat × Nat} {c23_4 : Int32} (u_23 : H[23]? = some (.inr (9, [.ref 24, .ref 27, .ref 29, .ref 31, .int c23_4]))) : Cm S d 93 [.ref 23] (H, z) (.inr (some (.int (t_X10_isFull c23_4))), (H, z)) := by
  have G : ∀ x, t_X10_isFull c23_4 = x → Go S d 93 (0, [some (.ref 23)], []) (H, z) (fun _ _ => False) (fun r => r = (.inr (some (.int x)), (H, z))) := by
    intro x h
    unfold t_X10_isFull at h
    refine go_step (fun _ => ev_run 1 (F' := (1, [some (.ref 23)], [.ref 23])) rfl) ?_
    refine go_step (fun _ => ev_getf rfl u_23 rfl) ?_
    refine go_step (fun _ => ev_run 1 (F' := (6, [some (.ref 23)], [.int (20 : Int32), .int c23_4])) rfl) ?_
    refine go_icmp rfl (fun (b6 : c23_4 < (20 : Int32)) => ?_) (fun (b6 : ¬ (c23_4 < (20 : Int32))) => ?_)
    · have h := (if_pos b6).symm.trans h
      refine go_step (fun _ => ev_run 1 (F' := (14, [some (.ref 23)], [.int (0 : Int32)])) rfl) ?_
      cases h
      exact Or.inr ⟨_, ev_ret rfl rfl rfl rfl, rfl⟩
    · have h := (if_neg b6).symm.trans h
      refine go_step (fun _ => ev_run 2 (F' := (14, [some (.ref 23)], [.int (1 : Int32)])) rfl) ?_
      cases h
      exact Or.inr ⟨_, ev_ret rfl rfl rfl rfl, rfl⟩
  obtain ⟨_, hE, rfl⟩ := go_end (G _ rfl)
  exact hE
theorem b_X10_isFull (c23_4 : Int32) : t_X10_isFull c23_4 = 0 ∨ t_X10_isFull c23_4 = 1 := by
  unfold t_X10_isFull
  (repeat' split) <;> first | exact Or.inl rfl | exact Or.inr rfl | skip
def q_X10_added (c23_4 : Int32) (c24_0 : Int32) (c17_1 : Int32) (a26 : Nat → Int32) (a25 : Nat → Int32) (a18 : Nat → Int32) : Option (Int32 × Int32 × (Nat → Int32) × (Nat → Int32)) := ((q_X8_write c23_4 c24_0 20 a26 c17_1 180 a25 18 a18).bind (fun y1 => (some (((c23_4 + (1 : Int32)) - (1 : Int32)), (c23_4 + (1 : Int32)), y1.1, y1.2))))
theorem C_X10_added {S : Nat × (Nat → Int32)} {d : Nat} {H : List xE} {z : Bool × Nat × Nat} {c23_4 : Int32} {c24_0 : Int32} {c17_1 : Int32} {a26 : Nat → Int32} {a25 : Nat → Int32} {a18 : Nat → Int32} (u_23 : H[23]? = some (.inr (9, [.ref 24, .ref 27, .ref 29, .ref 31, .int c23_4]))) (u_24 : H[24]? = some (.inr (7, [.int c24_0, .ref 25, .ref 26]))) (u_17 : H[17]? = some (.inr (4, [.ref 18, .int c17_1]))) (u_26 : H[26]? = some (.inl (0, 20, .inl a26))) (u_25 : H[25]? = some (.inl (0, 180, .inl a25))) (u_18 : H[18]? = some (.inl (0, 18, .inl a18))) {x : (Int32 × Int32 × (Nat → Int32) × (Nat → Int32))} (h : q_X10_added c23_4 c24_0 c17_1 a26 a25 a18 = some x) : ∃ H' : List xE, Cm S (d + 2) 94 [.ref 23, .ref 17] (H, z) (.inr (some (.int x.1)), (H', z)) ∧ H'[23]? = some (.inr (9, [.ref 24, .ref 27, .ref 29, .ref 31, .int x.2.1])) ∧ H'[26]? = some (.inl (0, 20, .inl x.2.2.1)) ∧ H'[25]? = some (.inl (0, 180, .inl x.2.2.2)) ∧ xfr [23, 26, 25] H H' := by
  have G : Go S (d + 2) 94 (0, [some (.ref 23), some (.ref 17)], []) (H, z) (fun _ _ => False) (fun r => ∃ H' : List xE, r = (.inr (some (.int x.1)), (H', z)) ∧ H'[23]? = some (.inr (9, [.ref 24, .ref 27, .ref 29, .ref 31, .int x.2.1])) ∧ H'[26]? = some (.inl (0, 20, .inl x.2.2.1)) ∧ H'[25]? = some (.inl (0, 180, .inl x.2.2.2)) ∧ xfr [23, 26, 25] H H') := by
    unfold q_X10_added at h
    refine go_step (fun _ => ev_run 1 (F' := (1, [some (.ref 23), some (.ref 17)], [.ref 23])) rfl) ?_
    refine go_step (fun _ => ev_getf rfl u_23 rfl) ?_
    refine go_step (fun _ => ev_run 1 (F' := (5, [some (.ref 23), some (.ref 17)], [.ref 23, .ref 24])) rfl) ?_
    refine go_step (fun _ => ev_getf rfl u_23 rfl) ?_
    refine go_step (fun _ => ev_run 1 (F' := (9, [some (.ref 23), some (.ref 17)], [.ref 17, .int c23_4, .ref 24])) rfl) ?_
    obtain ⟨y1, hy1, h⟩ := okb h
    obtain ⟨H2, hCH2, eH2_26, eH2_25, fH2⟩ := C_X8_write (S := S) (d := d) (z := z) (x1 := c23_4) u_24 u_26 u_17 u_25 u_18 (nb rfl) (nb rfl) (nb rfl) (nb rfl) (nb rfl) (nb rfl) (nb rfl) (by decide) hy1
    refine go_step (F1 := (12, [some (.ref 23), some (.ref 17)], [])) (M1 := (H2, z)) (fun _ => ev_callV (x := (.invokevirtual 37, 3, 79, 7, 1096, .null)) (as := [.int c23_4, .ref 17]) (rest := []) rfl rfl u_24 hCH2 rfl) ?_
    refine go_step (fun _ => ev_run 2 (F' := (14, [some (.ref 23), some (.ref 17)], [.ref 23, .ref 23])) rfl) ?_
    refine go_step (fun _ => ev_getf rfl ((fH2 23 rfl).trans u_23) rfl) ?_
    refine go_step (fun _ => ev_run 2 (F' := (19, [some (.ref 23), some (.ref 17)], [.int (c23_4 + (1 : Int32)), .ref 23])) rfl) ?_
    refine go_putf rfl ((fH2 23 rfl).trans u_23) rfl (fun H3 (eH3 : H3[23]? = some (.inr (9, [.ref 24, .ref 27, .ref 29, .ref 31, .int (c23_4 + (1 : Int32))]))) fH3 => ?_)
    refine go_step (fun _ => ev_run 1 (F' := (23, [some (.ref 23), some (.ref 17)], [.ref 23])) rfl) ?_
    refine go_step (fun _ => ev_getf rfl eH3 rfl) ?_
    refine go_step (fun _ => ev_run 2 (F' := (28, [some (.ref 23), some (.ref 17)], [.int ((c23_4 + (1 : Int32)) - (1 : Int32))])) rfl) ?_
    cases h
    exact Or.inr ⟨_, ev_ret rfl rfl rfl rfl, H3, rfl, eH3, ((fH3 26 rfl).trans eH2_26), ((fH3 25 rfl).trans eH2_25), (xfr_t (xfr_t xfr_refl rfl fH2) rfl fH3)⟩
  obtain ⟨_, hE, H', rfl, hrest⟩ := go_end G
  exact ⟨H', hE, hrest⟩
def q_X10_numberOf_L2 (c23_4 : Int32) (c24_0 : Int32) (a26 : Nat → Int32) (a25 : Nat → Int32) (c17_1 : Int32) (a18 : Nat → Int32) : Nat → Int32 → Int32 → (Nat → Int32) → Option ((Int32 × Int32 × (Nat → Int32)) ⊕ (Int32 × Int32 × (Nat → Int32)))
  | 0, _, _, _ => none
  | n + 1, l2, c31_1, a32 => (if c23_4 ≤ l2 then (some (Sum.inl (l2, c31_1, a32))) else ((q_X8_read l2 c24_0 20 a26 180 a25 9 a32).bind (fun y1 => ((q_X5_compareAsText y1.1 c17_1 9 y1.2 18 a18).bind (fun y3 => (if ¬ y3 = (0 : Int32) then (q_X10_numberOf_L2 c23_4 c24_0 a26 a25 c17_1 a18 n (l2 + (1 : Int32)) y1.1 y1.2) else (some (Sum.inr (l2, y1.1, y1.2)))))))))
def q_X10_numberOf (c23_4 : Int32) (c24_0 : Int32) (c31_1 : Int32) (a26 : Nat → Int32) (a25 : Nat → Int32) (a32 : Nat → Int32) (c17_1 : Int32) (a18 : Nat → Int32) : Option (Int32 × Int32 × (Nat → Int32)) := (xlp (q_X10_numberOf_L2 c23_4 c24_0 a26 a25 c17_1 a18 10000 (0 : Int32) c31_1 a32) (fun y1 => (some ((-1 : Int32), y1.2.1, y1.2.2))) (fun y1 => (some (y1.1, y1.2.1, y1.2.2))))
theorem L_X10_numberOf_L2 {S : Nat × (Nat → Int32)} {d : Nat} {z : Bool × Nat × Nat} {c23_4 : Int32} {c24_0 : Int32} {a26 : Nat → Int32} {a25 : Nat → Int32} {c17_1 : Int32} {a18 : Nat → Int32} {H0 : List xE} (u_23 : H0[23]? = some (.inr (9, [.ref 24, .ref 27, .ref 29, .ref 31, .int c23_4]))) (u_24 : H0[24]? = some (.inr (7, [.int c24_0, .ref 25, .ref 26]))) (u_26 : H0[26]? = some (.inl (0, 20, .inl a26))) (u_25 : H0[25]? = some (.inl (0, 180, .inl a25))) (u_17 : H0[17]? = some (.inr (4, [.ref 18, .int c17_1]))) (u_18 : H0[18]? = some (.inl (0, 18, .inl a18))) : ∀ (n : Nat) (l2 : Int32) (c31_1 : Int32) (a32 : Nat → Int32) (H : List xE), xfr [31, 32] H0 H → H[31]? = some (.inr (4, [.ref 32, .int c31_1])) → H[32]? = some (.inl (0, 9, .inl a32)) → ∀ x, q_X10_numberOf_L2 c23_4 c24_0 a26 a25 c17_1 a18 n l2 c31_1 a32 = some x → Go S (d + 4) 95 (2, [some (.ref 23), some (.ref 17), some (.int l2)], []) (H, z) (fun F' M' => ∃ (m : (Int32 × Int32 × (Nat → Int32))) (H' : List xE), x = Sum.inl m ∧ F' = (41, [none, none, none], []) ∧ M' = (H', z) ∧ H'[31]? = some (.inr (4, [.ref 32, .int m.2.1])) ∧ H'[32]? = some (.inl (0, 9, .inl m.2.2)) ∧ xfr [31, 32] H0 H') (fun r => ∃ (c : (Int32 × Int32 × (Nat → Int32))) (H' : List xE), x = Sum.inr c ∧ r = (.inr (some (.int c.1)), (H', z)) ∧ H'[31]? = some (.inr (4, [.ref 32, .int c.2.1])) ∧ H'[32]? = some (.inl (0, 9, .inl c.2.2)) ∧ xfr [31, 32] H0 H') := by
  intro n
  induction n with
  | zero =>
    intro l2 c31_1 a32 H fr e_31 e_32 x h
    unfold q_X10_numberOf_L2 at h
    cases h
  | succ n ih =>
    intro l2 c31_1 a32 H fr e_31 e_32 x h
    unfold q_X10_numberOf_L2 at h
    refine go_step (fun _ => ev_run 2 (F' := (4, [some (.ref 23), some (.ref 17), some (.int l2)], [.ref 23, .int l2])) rfl) ?_
    refine go_step (fun _ => ev_getf rfl ((fr 23 rfl).trans u_23) rfl) ?_
    refine go_icmp rfl (fun (b7 : c23_4 ≤ l2) => ?_) (fun (b7 : ¬ (c23_4 ≤ l2)) => ?_)
    · have h := (if_pos b7).symm.trans h
      refine go_step (fun _ => ev_forget (L' := [none, none, none]) (show xleP _ [some (.ref 23), some (.ref 17), some (.int l2)] from trivial) rfl) ?_
      cases h
      exact Or.inl ⟨_, _, fun r hr => hr, _, H, rfl, rfl, rfl, e_31, e_32, fr⟩
    · have h := (if_neg b7).symm.trans h
      refine go_step (fun _ => ev_run 1 (F' := (11, [some (.ref 23), some (.ref 17), some (.int l2)], [.ref 23])) rfl) ?_
      refine go_step (fun _ => ev_getf rfl ((fr 23 rfl).trans u_23) rfl) ?_
      refine go_step (fun _ => ev_run 2 (F' := (16, [some (.ref 23), some (.ref 17), some (.int l2)], [.ref 23, .int l2, .ref 24])) rfl) ?_
      refine go_step (fun _ => ev_getf rfl ((fr 23 rfl).trans u_23) rfl) ?_
      obtain ⟨y1, hy1, h⟩ := okb h
      obtain ⟨H2, hCH2, eH2_31, eH2_32, fH2⟩ := C_X8_read (S := S) (d := d) (z := z) (x1 := l2) e_31 ((fr 24 rfl).trans u_24) ((fr 26 rfl).trans u_26) ((fr 25 rfl).trans u_25) e_32 (nb rfl) (nb rfl) (nb rfl) (nb rfl) (nb rfl) (nb rfl) (nb rfl) (by decide) hy1
      refine go_step (F1 := (22, [some (.ref 23), some (.ref 17), some (.int l2)], [])) (M1 := (H2, z)) (fun _ => ev_callV (x := (.invokevirtual 41, 3, 80, 7, 1081, .null)) (as := [.int l2, .ref 31]) (rest := []) rfl rfl ((fr 24 rfl).trans u_24) hCH2 rfl) ?_
      refine go_step (fun _ => ev_run 1 (F' := (23, [some (.ref 23), some (.ref 17), some (.int l2)], [.ref 23])) rfl) ?_
      refine go_step (fun _ => ev_getf rfl ((fH2 23 rfl).trans ((fr 23 rfl).trans u_23)) rfl) ?_
      refine go_step (fun _ => ev_run 1 (F' := (27, [some (.ref 23), some (.ref 17), some (.int l2)], [.ref 17, .ref 31])) rfl) ?_
      obtain ⟨y3, hy3, h⟩ := okb h
      refine go_step (F1 := (30, [some (.ref 23), some (.ref 17), some (.int l2)], [.int y3])) (M1 := (H2, z)) (fun _ => ev_callV (x := (.invokevirtual 44, 3, 61, 4, 1082, .null)) (as := [.ref 17]) (rest := []) rfl rfl eH2_31 (C_X5_compareAsText (S := S) (d := d + 2) (z := z) eH2_31 ((fH2 17 rfl).trans ((fr 17 rfl).trans u_17)) eH2_32 ((fH2 18 rfl).trans ((fr 18 rfl).trans u_18)) (by decide) (by decide) hy3) rfl) ?_
      refine go_if rfl (fun (b30 : ¬ y3 = (0 : Int32)) => ?_) (fun (b30 : ¬ (¬ y3 = (0 : Int32))) => ?_)
      · have h := (if_pos b30).symm.trans h
        refine go_step (fun _ => ev_run 2 (F' := (2, [some (.ref 23), some (.ref 17), some (.int (l2 + (1 : Int32)))], [])) rfl) ?_
        exact ih (l2 + (1 : Int32)) y1.1 y1.2 H2 (xfr_t fr rfl fH2) eH2_31 eH2_32 _ h
      · have h := (if_neg b30).symm.trans h
        refine go_step (fun _ => ev_run 1 (F' := (34, [some (.ref 23), some (.ref 17), some (.int l2)], [.int l2])) rfl) ?_
        cases h
        exact Or.inr ⟨_, ev_ret rfl rfl rfl rfl, _, H2, rfl, rfl, eH2_31, eH2_32, (xfr_t fr rfl fH2)⟩
theorem C_X10_numberOf {S : Nat × (Nat → Int32)} {d : Nat} {H : List xE} {z : Bool × Nat × Nat} {c23_4 : Int32} {c24_0 : Int32} {c31_1 : Int32} {a26 : Nat → Int32} {a25 : Nat → Int32} {a32 : Nat → Int32} {c17_1 : Int32} {a18 : Nat → Int32} (u_23 : H[23]? = some (.inr (9, [.ref 24, .ref 27, .ref 29, .ref 31, .int c23_4]))) (u_24 : H[24]? = some (.inr (7, [.int c24_0, .ref 25, .ref 26]))) (u_31 : H[31]? = some (.inr (4, [.ref 32, .int c31_1]))) (u_26 : H[26]? = some (.inl (0, 20, .inl a26))) (u_25 : H[25]? = some (.inl (0, 180, .inl a25))) (u_32 : H[32]? = some (.inl (0, 9, .inl a32))) (u_17 : H[17]? = some (.inr (4, [.ref 18, .int c17_1]))) (u_18 : H[18]? = some (.inl (0, 18, .inl a18))) {x : (Int32 × Int32 × (Nat → Int32))} (h : q_X10_numberOf c23_4 c24_0 c31_1 a26 a25 a32 c17_1 a18 = some x) : ∃ H' : List xE, Cm S (d + 4) 95 [.ref 23, .ref 17] (H, z) (.inr (some (.int x.1)), (H', z)) ∧ H'[31]? = some (.inr (4, [.ref 32, .int x.2.1])) ∧ H'[32]? = some (.inl (0, 9, .inl x.2.2)) ∧ xfr [31, 32] H H' := by
  have G : Go S (d + 4) 95 (0, [some (.ref 23), some (.ref 17), none], []) (H, z) (fun _ _ => False) (fun r => ∃ H' : List xE, r = (.inr (some (.int x.1)), (H', z)) ∧ H'[31]? = some (.inr (4, [.ref 32, .int x.2.1])) ∧ H'[32]? = some (.inl (0, 9, .inl x.2.2)) ∧ xfr [31, 32] H H') := by
    unfold q_X10_numberOf at h
    refine go_step (fun _ => ev_run 2 (F' := (2, [some (.ref 23), some (.ref 17), some (.int (0 : Int32))], [])) rfl) ?_
    rcases okl h with ⟨y1, hy1, h⟩ | ⟨y1, hy1, h⟩
    · rcases L_X10_numberOf_L2 (S := S) (d := d) (z := z) u_23 u_24 u_26 u_25 u_17 u_18 10000 (0 : Int32) c31_1 a32 H xfr_refl u_31 u_32 _ hy1 with ⟨_, _, hr2, _, H4, hx3, rfl, rfl, eH4_31, eH4_32, fH4⟩ | ⟨_, _, _, _, hx3, _⟩
      · cases hx3
        refine go_step hr2 ?_
        refine go_step (fun _ => ev_run 1 (F' := (42, [none, none, none], [.int (-1 : Int32)])) rfl) ?_
        cases h
        exact Or.inr ⟨_, ev_ret rfl rfl rfl rfl, H4, rfl, eH4_31, eH4_32, (xfr_t xfr_refl rfl fH4)⟩
      · cases hx3
    · rcases L_X10_numberOf_L2 (S := S) (d := d) (z := z) u_23 u_24 u_26 u_25 u_17 u_18 10000 (0 : Int32) c31_1 a32 H xfr_refl u_31 u_32 _ hy1 with ⟨_, _, _, _, _, hx3, _⟩ | ⟨_, hE6, _, H7, hx3, rfl, eH7_31, eH7_32, fH7⟩
      · cases hx3
      · cases hx3
        cases h
        exact Or.inr ⟨_, hE6, H7, rfl, eH7_31, eH7_32, (xfr_t xfr_refl rfl fH7)⟩
  obtain ⟨_, hE, H', rfl, hrest⟩ := go_end G
  exact ⟨H', hE, hrest⟩
def q_X10_isOneSlip_L20 (c31_1 : Int32) (a32 : Nat → Int32) (a18 : Nat → Int32) : Nat → Int32 → Int32 → Int32 → Option (Int32 × Int32 × Int32)
  | 0, _, _, _ => none
  | n + 1, l2, l3, l4 => (if (t_X5_size c31_1) ≤ l4 then (some (l2, l3, l4)) else (q_X10_isOneSlip_L20 c31_1 a32 a18 n (if (t_X5_at l4 9 a32) = (t_X5_at l4 18 a18) then l2 else (l2 + (1 : Int32))) (if (t_X5_at l4 9 a32) = (t_X5_at l4 18 a18) then l3 else l4) (l4 + (1 : Int32))))
def q_X10_isOneSlip (c31_1 : Int32) (c17_1 : Int32) (a32 : Nat → Int32) (a18 : Nat → Int32) : Option Int32 := (if (t_X5_size c31_1) = (t_X5_size c17_1) then ((q_X10_isOneSlip_L20 c31_1 a32 a18 10000 (0 : Int32) (0 : Int32) (0 : Int32)).bind (fun y1 => (if y1.1 = (1 : Int32) then (some (1 : Int32)) else (if ¬ y1.1 = (2 : Int32) then (some (0 : Int32)) else (if y1.2.1 ≤ (0 : Int32) then (some (0 : Int32)) else (if ¬ (t_X5_at (y1.2.1 - (1 : Int32)) 9 a32) = (t_X5_at y1.2.1 18 a18) then (some (0 : Int32)) else (if ¬ (t_X5_at y1.2.1 9 a32) = (t_X5_at (y1.2.1 - (1 : Int32)) 18 a18) then (some (0 : Int32)) else (some (1 : Int32))))))))) else (some (0 : Int32)))
theorem L_X10_isOneSlip_L20 {S : Nat × (Nat → Int32)} {d : Nat} {z : Bool × Nat × Nat} {c17_1 : Int32} {c31_1 : Int32} {a32 : Nat → Int32} {a18 : Nat → Int32} {H : List xE} (u_31 : H[31]? = some (.inr (4, [.ref 32, .int c31_1]))) (u_17 : H[17]? = some (.inr (4, [.ref 18, .int c17_1]))) (u_32 : H[32]? = some (.inl (0, 9, .inl a32))) (u_18 : H[18]? = some (.inl (0, 18, .inl a18))) : ∀ (n : Nat) (l2 : Int32) (l3 : Int32) (l4 : Int32) x, q_X10_isOneSlip_L20 c31_1 a32 a18 n l2 l3 l4 = some x → Go S (d + 1) 98 (20, [some (.ref 31), some (.ref 17), some (.int l2), some (.int l3), some (.int l4)], []) (H, z) (fun F' M' =>  F' = (56, [some (.ref 31), some (.ref 17), some (.int x.1), some (.int x.2.1), none], []) ∧ M' = (H, z)) (fun _ => False) := by
  intro n
  induction n with
  | zero =>
    intro l2 l3 l4 x h
    unfold q_X10_isOneSlip_L20 at h
    cases h
  | succ n ih =>
    intro l2 l3 l4 x h
    unfold q_X10_isOneSlip_L20 at h
    refine go_step (fun _ => ev_run 2 (F' := (23, [some (.ref 31), some (.ref 17), some (.int l2), some (.int l3), some (.int l4)], [.ref 31, .int l4])) rfl) ?_
    refine go_step (F1 := (26, [some (.ref 31), some (.ref 17), some (.int l2), some (.int l3), some (.int l4)], [.int (t_X5_size c31_1), .int l4])) (M1 := (H, z)) (fun _ => ev_callV (x := (.invokevirtual 56, 3, 53, 4, 1108, .null)) (as := []) (rest := [.int l4]) rfl rfl u_31 (C_X5_size (S := S) (d := d) (z := z) u_31) rfl) ?_
    refine go_icmp rfl (fun (b26 : (t_X5_size c31_1) ≤ l4) => ?_) (fun (b26 : ¬ ((t_X5_size c31_1) ≤ l4)) => ?_)
    · have h := (if_pos b26).symm.trans h
      refine go_step (fun _ => ev_forget (L' := [some (.ref 31), some (.ref 17), some (.int l2), some (.int l3), none]) (show xleP _ [some (.ref 31), some (.ref 17), some (.int l2), some (.int l3), some (.int l4)] from ⟨rfl, ⟨rfl, ⟨rfl, ⟨rfl, trivial⟩⟩⟩⟩) rfl) ?_
      cases h
      exact Or.inl ⟨_, _, fun r hr => hr, rfl, rfl⟩
    · have h := (if_neg b26).symm.trans h
      refine go_step (fun _ => ev_run 2 (F' := (32, [some (.ref 31), some (.ref 17), some (.int l2), some (.int l3), some (.int l4)], [.int l4, .ref 31])) rfl) ?_
      refine go_step (F1 := (35, [some (.ref 31), some (.ref 17), some (.int l2), some (.int l3), some (.int l4)], [.int (t_X5_at l4 9 a32)])) (M1 := (H, z)) (fun _ => ev_callV (x := (.invokevirtual 60, 3, 55, 4, 1109, .null)) (as := [.int l4]) (rest := []) rfl rfl u_31 (C_X5_at (S := S) (d := d) (z := z) (x1 := l4) u_31 u_32 (by decide)) rfl) ?_
      refine go_step (fun _ => ev_run 2 (F' := (38, [some (.ref 31), some (.ref 17), some (.int l2), some (.int l3), some (.int l4)], [.int l4, .ref 17, .int (t_X5_at l4 9 a32)])) rfl) ?_
      refine go_step (F1 := (41, [some (.ref 31), some (.ref 17), some (.int l2), some (.int l3), some (.int l4)], [.int (t_X5_at l4 18 a18), .int (t_X5_at l4 9 a32)])) (M1 := (H, z)) (fun _ => ev_callV (x := (.invokevirtual 60, 3, 55, 4, 1109, .null)) (as := [.int l4]) (rest := [.int (t_X5_at l4 9 a32)]) rfl rfl u_17 (C_X5_at (S := S) (d := d) (z := z) (x1 := l4) u_17 u_18 (by decide)) rfl) ?_
      refine go_step (F1 := (50, [some (.ref 31), some (.ref 17), some (.int (if (t_X5_at l4 9 a32) = (t_X5_at l4 18 a18) then l2 else (l2 + (1 : Int32)))), some (.int (if (t_X5_at l4 9 a32) = (t_X5_at l4 18 a18) then l3 else l4)), some (.int l4)], [])) (M1 := (H, z)) (fun r K => ?_) ?_
      · skip
        refine ev_icmp rfl (fun (b41 : (t_X5_at l4 9 a32) = (t_X5_at l4 18 a18)) => ?_) (fun (b41 : ¬ ((t_X5_at l4 9 a32) = (t_X5_at l4 18 a18))) => ?_)
        · skip
          exact ev_cast (show ((50, [some (.ref 31), some (.ref 17), some (.int l2), some (.int l3), some (.int l4)], []) : xF) = (50, [some (.ref 31), some (.ref 17), some (.int (if (t_X5_at l4 9 a32) = (t_X5_at l4 18 a18) then l2 else (l2 + (1 : Int32)))), some (.int (if (t_X5_at l4 9 a32) = (t_X5_at l4 18 a18) then l3 else l4)), some (.int l4)], []) by first | (simp only [if_pos b41]; done) | rfl) rfl K
        · skip
          refine ev_run 3 (F' := (50, [some (.ref 31), some (.ref 17), some (.int (l2 + (1 : Int32))), some (.int l4), some (.int l4)], [])) rfl ?_
          exact ev_cast (show ((50, [some (.ref 31), some (.ref 17), some (.int (l2 + (1 : Int32))), some (.int l4), some (.int l4)], []) : xF) = (50, [some (.ref 31), some (.ref 17), some (.int (if (t_X5_at l4 9 a32) = (t_X5_at l4 18 a18) then l2 else (l2 + (1 : Int32)))), some (.int (if (t_X5_at l4 9 a32) = (t_X5_at l4 18 a18) then l3 else l4)), some (.int l4)], []) by first | (simp only [if_neg b41]; done) | rfl) rfl K
      refine go_step (fun _ => ev_run 2 (F' := (20, [some (.ref 31), some (.ref 17), some (.int (if (t_X5_at l4 9 a32) = (t_X5_at l4 18 a18) then l2 else (l2 + (1 : Int32)))), some (.int (if (t_X5_at l4 9 a32) = (t_X5_at l4 18 a18) then l3 else l4)), some (.int (l4 + (1 : Int32)))], [])) rfl) ?_
      exact ih (if (t_X5_at l4 9 a32) = (t_X5_at l4 18 a18) then l2 else (l2 + (1 : Int32))) (if (t_X5_at l4 9 a32) = (t_X5_at l4 18 a18) then l3 else l4) (l4 + (1 : Int32)) _ h
theorem C_X10_isOneSlip {S : Nat × (Nat → Int32)} {d : Nat} {H : List xE} {z : Bool × Nat × Nat} {c31_1 : Int32} {c17_1 : Int32} {a32 : Nat → Int32} {a18 : Nat → Int32} (u_31 : H[31]? = some (.inr (4, [.ref 32, .int c31_1]))) (u_17 : H[17]? = some (.inr (4, [.ref 18, .int c17_1]))) (u_32 : H[32]? = some (.inl (0, 9, .inl a32))) (u_18 : H[18]? = some (.inl (0, 18, .inl a18))) {x : Int32} (h : q_X10_isOneSlip c31_1 c17_1 a32 a18 = some x) : Cm S (d + 1) 98 [.ref 31, .ref 17] (H, z) (.inr (some (.int x)), (H, z)) := by
  have G : Go S (d + 1) 98 (0, [some (.ref 31), some (.ref 17), none, none, none], []) (H, z) (fun _ _ => False) (fun r => r = (.inr (some (.int x)), (H, z))) := by
    unfold q_X10_isOneSlip at h
    refine go_step (fun _ => ev_run 1 (F' := (1, [some (.ref 31), some (.ref 17), none, none, none], [.ref 31])) rfl) ?_
    refine go_step (F1 := (4, [some (.ref 31), some (.ref 17), none, none, none], [.int (t_X5_size c31_1)])) (M1 := (H, z)) (fun _ => ev_callV (x := (.invokevirtual 56, 3, 53, 4, 1108, .null)) (as := []) (rest := []) rfl rfl u_31 (C_X5_size (S := S) (d := d) (z := z) u_31) rfl) ?_
    refine go_step (fun _ => ev_run 1 (F' := (5, [some (.ref 31), some (.ref 17), none, none, none], [.ref 17, .int (t_X5_size c31_1)])) rfl) ?_
    refine go_step (F1 := (8, [some (.ref 31), some (.ref 17), none, none, none], [.int (t_X5_size c17_1), .int (t_X5_size c31_1)])) (M1 := (H, z)) (fun _ => ev_callV (x := (.invokevirtual 56, 3, 53, 4, 1108, .null)) (as := []) (rest := [.int (t_X5_size c31_1)]) rfl rfl u_17 (C_X5_size (S := S) (d := d) (z := z) u_17) rfl) ?_
    refine go_icmp rfl (fun (b8 : (t_X5_size c31_1) = (t_X5_size c17_1)) => ?_) (fun (b8 : ¬ ((t_X5_size c31_1) = (t_X5_size c17_1))) => ?_)
    · have h := (if_pos b8).symm.trans h
      refine go_step (fun _ => ev_run 6 (F' := (20, [some (.ref 31), some (.ref 17), some (.int (0 : Int32)), some (.int (0 : Int32)), some (.int (0 : Int32))], [])) rfl) ?_
      obtain ⟨y1, hy1, h⟩ := okb h
      obtain ⟨_, _, hr2, rfl, rfl⟩ := go_nr (L_X10_isOneSlip_L20 (S := S) (d := d) (z := z) u_31 u_17 u_32 u_18 10000 (0 : Int32) (0 : Int32) (0 : Int32) _ hy1)
      refine go_step hr2 ?_
      refine go_step (fun _ => ev_run 2 (F' := (58, [some (.ref 31), some (.ref 17), some (.int y1.1), some (.int y1.2.1), none], [.int (1 : Int32), .int y1.1])) rfl) ?_
      refine go_icmp rfl (fun (b58 : y1.1 = (1 : Int32)) => ?_) (fun (b58 : ¬ (y1.1 = (1 : Int32))) => ?_)
      · have h := (if_pos b58).symm.trans h
        refine go_step (fun _ => ev_run 2 (F' := (105, [some (.ref 31), some (.ref 17), some (.int y1.1), some (.int y1.2.1), none], [.int (1 : Int32)])) rfl) ?_
        cases h
        exact Or.inr ⟨_, ev_ret rfl rfl rfl rfl, rfl⟩
      · have h := (if_neg b58).symm.trans h
        refine go_step (fun _ => ev_run 2 (F' := (63, [some (.ref 31), some (.ref 17), some (.int y1.1), some (.int y1.2.1), none], [.int (2 : Int32), .int y1.1])) rfl) ?_
        refine go_icmp rfl (fun (b63 : ¬ y1.1 = (2 : Int32)) => ?_) (fun (b63 : ¬ (¬ y1.1 = (2 : Int32))) => ?_)
        · have h := (if_pos b63).symm.trans h
          refine go_step (fun _ => ev_run 1 (F' := (105, [some (.ref 31), some (.ref 17), some (.int y1.1), some (.int y1.2.1), none], [.int (0 : Int32)])) rfl) ?_
          cases h
          exact Or.inr ⟨_, ev_ret rfl rfl rfl rfl, rfl⟩
        · have h := (if_neg b63).symm.trans h
          refine go_step (fun _ => ev_run 1 (F' := (67, [some (.ref 31), some (.ref 17), some (.int y1.1), some (.int y1.2.1), none], [.int y1.2.1])) rfl) ?_
          refine go_if rfl (fun (b67 : y1.2.1 ≤ (0 : Int32)) => ?_) (fun (b67 : ¬ (y1.2.1 ≤ (0 : Int32))) => ?_)
          · have h := (if_pos b67).symm.trans h
            refine go_step (fun _ => ev_run 1 (F' := (105, [some (.ref 31), some (.ref 17), some (.int y1.1), some (.int y1.2.1), none], [.int (0 : Int32)])) rfl) ?_
            cases h
            exact Or.inr ⟨_, ev_ret rfl rfl rfl rfl, rfl⟩
          · have h := (if_neg b67).symm.trans h
            refine go_step (fun _ => ev_run 4 (F' := (74, [some (.ref 31), some (.ref 17), some (.int y1.1), some (.int y1.2.1), none], [.int (y1.2.1 - (1 : Int32)), .ref 31])) rfl) ?_
            refine go_step (F1 := (77, [some (.ref 31), some (.ref 17), some (.int y1.1), some (.int y1.2.1), none], [.int (t_X5_at (y1.2.1 - (1 : Int32)) 9 a32)])) (M1 := (H, z)) (fun _ => ev_callV (x := (.invokevirtual 60, 3, 55, 4, 1109, .null)) (as := [.int (y1.2.1 - (1 : Int32))]) (rest := []) rfl rfl u_31 (C_X5_at (S := S) (d := d) (z := z) (x1 := (y1.2.1 - (1 : Int32))) u_31 u_32 (by decide)) rfl) ?_
            refine go_step (fun _ => ev_run 2 (F' := (79, [some (.ref 31), some (.ref 17), some (.int y1.1), some (.int y1.2.1), none], [.int y1.2.1, .ref 17, .int (t_X5_at (y1.2.1 - (1 : Int32)) 9 a32)])) rfl) ?_
            refine go_step (F1 := (82, [some (.ref 31), some (.ref 17), some (.int y1.1), some (.int y1.2.1), none], [.int (t_X5_at y1.2.1 18 a18), .int (t_X5_at (y1.2.1 - (1 : Int32)) 9 a32)])) (M1 := (H, z)) (fun _ => ev_callV (x := (.invokevirtual 60, 3, 55, 4, 1109, .null)) (as := [.int y1.2.1]) (rest := [.int (t_X5_at (y1.2.1 - (1 : Int32)) 9 a32)]) rfl rfl u_17 (C_X5_at (S := S) (d := d) (z := z) (x1 := y1.2.1) u_17 u_18 (by decide)) rfl) ?_
            refine go_icmp rfl (fun (b82 : ¬ (t_X5_at (y1.2.1 - (1 : Int32)) 9 a32) = (t_X5_at y1.2.1 18 a18)) => ?_) (fun (b82 : ¬ (¬ (t_X5_at (y1.2.1 - (1 : Int32)) 9 a32) = (t_X5_at y1.2.1 18 a18))) => ?_)
            · have h := (if_pos b82).symm.trans h
              refine go_step (fun _ => ev_run 1 (F' := (105, [some (.ref 31), some (.ref 17), some (.int y1.1), some (.int y1.2.1), none], [.int (0 : Int32)])) rfl) ?_
              cases h
              exact Or.inr ⟨_, ev_ret rfl rfl rfl rfl, rfl⟩
            · have h := (if_neg b82).symm.trans h
              refine go_step (fun _ => ev_run 2 (F' := (87, [some (.ref 31), some (.ref 17), some (.int y1.1), some (.int y1.2.1), none], [.int y1.2.1, .ref 31])) rfl) ?_
              refine go_step (F1 := (90, [some (.ref 31), some (.ref 17), some (.int y1.1), some (.int y1.2.1), none], [.int (t_X5_at y1.2.1 9 a32)])) (M1 := (H, z)) (fun _ => ev_callV (x := (.invokevirtual 60, 3, 55, 4, 1109, .null)) (as := [.int y1.2.1]) (rest := []) rfl rfl u_31 (C_X5_at (S := S) (d := d) (z := z) (x1 := y1.2.1) u_31 u_32 (by decide)) rfl) ?_
              refine go_step (fun _ => ev_run 4 (F' := (94, [some (.ref 31), some (.ref 17), some (.int y1.1), some (.int y1.2.1), none], [.int (y1.2.1 - (1 : Int32)), .ref 17, .int (t_X5_at y1.2.1 9 a32)])) rfl) ?_
              refine go_step (F1 := (97, [some (.ref 31), some (.ref 17), some (.int y1.1), some (.int y1.2.1), none], [.int (t_X5_at (y1.2.1 - (1 : Int32)) 18 a18), .int (t_X5_at y1.2.1 9 a32)])) (M1 := (H, z)) (fun _ => ev_callV (x := (.invokevirtual 60, 3, 55, 4, 1109, .null)) (as := [.int (y1.2.1 - (1 : Int32))]) (rest := [.int (t_X5_at y1.2.1 9 a32)]) rfl rfl u_17 (C_X5_at (S := S) (d := d) (z := z) (x1 := (y1.2.1 - (1 : Int32))) u_17 u_18 (by decide)) rfl) ?_
              refine go_icmp rfl (fun (b97 : ¬ (t_X5_at y1.2.1 9 a32) = (t_X5_at (y1.2.1 - (1 : Int32)) 18 a18)) => ?_) (fun (b97 : ¬ (¬ (t_X5_at y1.2.1 9 a32) = (t_X5_at (y1.2.1 - (1 : Int32)) 18 a18))) => ?_)
              · have h := (if_pos b97).symm.trans h
                refine go_step (fun _ => ev_run 1 (F' := (105, [some (.ref 31), some (.ref 17), some (.int y1.1), some (.int y1.2.1), none], [.int (0 : Int32)])) rfl) ?_
                cases h
                exact Or.inr ⟨_, ev_ret rfl rfl rfl rfl, rfl⟩
              · have h := (if_neg b97).symm.trans h
                refine go_step (fun _ => ev_run 2 (F' := (105, [some (.ref 31), some (.ref 17), some (.int y1.1), some (.int y1.2.1), none], [.int (1 : Int32)])) rfl) ?_
                cases h
                exact Or.inr ⟨_, ev_ret rfl rfl rfl rfl, rfl⟩
    · have h := (if_neg b8).symm.trans h
      refine go_step (fun _ => ev_run 1 (F' := (12, [some (.ref 31), some (.ref 17), none, none, none], [.int (0 : Int32)])) rfl) ?_
      cases h
      exact Or.inr ⟨_, ev_ret rfl rfl rfl rfl, rfl⟩
  obtain ⟨_, hE, rfl⟩ := go_end G
  exact hE
def q_X10_numberNear_L4 (c23_4 : Int32) (c24_0 : Int32) (a26 : Nat → Int32) (a25 : Nat → Int32) (c17_1 : Int32) (a18 : Nat → Int32) : Nat → Int32 → Int32 → Int32 → (Nat → Int32) → Option ((Int32 × Int32 × Int32 × (Nat → Int32)) ⊕ (Int32 × Int32 × (Nat → Int32)))
  | 0, _, _, _, _ => none
  | n + 1, l2, l3, c31_1, a32 => (if c23_4 ≤ l3 then (some (Sum.inl (l2, l3, c31_1, a32))) else ((q_X8_read l3 c24_0 20 a26 180 a25 9 a32).bind (fun y1 => ((q_X10_isOneSlip y1.1 c17_1 y1.2 a18).bind (fun y3 => (if y3 = (0 : Int32) then (q_X10_numberNear_L4 c23_4 c24_0 a26 a25 c17_1 a18 n l2 (l3 + (1 : Int32)) y1.1 y1.2) else (if l2 < (0 : Int32) then (q_X10_numberNear_L4 c23_4 c24_0 a26 a25 c17_1 a18 n l3 (l3 + (1 : Int32)) y1.1 y1.2) else (some (Sum.inr ((-2 : Int32), y1.1, y1.2))))))))))
def q_X10_numberNear (c23_4 : Int32) (c24_0 : Int32) (c31_1 : Int32) (a26 : Nat → Int32) (a25 : Nat → Int32) (a32 : Nat → Int32) (c17_1 : Int32) (a18 : Nat → Int32) : Option (Int32 × Int32 × (Nat → Int32)) := (xlp (q_X10_numberNear_L4 c23_4 c24_0 a26 a25 c17_1 a18 10000 (-1 : Int32) (0 : Int32) c31_1 a32) (fun y1 => (some (y1.1, y1.2.2.1, y1.2.2.2))) (fun y1 => (some (y1.1, y1.2.1, y1.2.2))))
theorem L_X10_numberNear_L4 {S : Nat × (Nat → Int32)} {d : Nat} {z : Bool × Nat × Nat} {c23_4 : Int32} {c24_0 : Int32} {a26 : Nat → Int32} {a25 : Nat → Int32} {c17_1 : Int32} {a18 : Nat → Int32} {H0 : List xE} (u_23 : H0[23]? = some (.inr (9, [.ref 24, .ref 27, .ref 29, .ref 31, .int c23_4]))) (u_24 : H0[24]? = some (.inr (7, [.int c24_0, .ref 25, .ref 26]))) (u_26 : H0[26]? = some (.inl (0, 20, .inl a26))) (u_25 : H0[25]? = some (.inl (0, 180, .inl a25))) (u_17 : H0[17]? = some (.inr (4, [.ref 18, .int c17_1]))) (u_18 : H0[18]? = some (.inl (0, 18, .inl a18))) : ∀ (n : Nat) (l2 : Int32) (l3 : Int32) (c31_1 : Int32) (a32 : Nat → Int32) (H : List xE), xfr [31, 32] H0 H → H[31]? = some (.inr (4, [.ref 32, .int c31_1])) → H[32]? = some (.inl (0, 9, .inl a32)) → ∀ x, q_X10_numberNear_L4 c23_4 c24_0 a26 a25 c17_1 a18 n l2 l3 c31_1 a32 = some x → Go S (d + 4) 96 (4, [some (.ref 23), some (.ref 17), some (.int l2), some (.int l3)], []) (H, z) (fun F' M' => ∃ (m : (Int32 × Int32 × Int32 × (Nat → Int32))) (H' : List xE), x = Sum.inl m ∧ F' = (50, [none, none, some (.int m.1), none], []) ∧ M' = (H', z) ∧ H'[31]? = some (.inr (4, [.ref 32, .int m.2.2.1])) ∧ H'[32]? = some (.inl (0, 9, .inl m.2.2.2)) ∧ xfr [31, 32] H0 H') (fun r => ∃ (c : (Int32 × Int32 × (Nat → Int32))) (H' : List xE), x = Sum.inr c ∧ r = (.inr (some (.int c.1)), (H', z)) ∧ H'[31]? = some (.inr (4, [.ref 32, .int c.2.1])) ∧ H'[32]? = some (.inl (0, 9, .inl c.2.2)) ∧ xfr [31, 32] H0 H') := by
  intro n
  induction n with
  | zero =>
    intro l2 l3 c31_1 a32 H fr e_31 e_32 x h
    unfold q_X10_numberNear_L4 at h
    cases h
  | succ n ih =>
    intro l2 l3 c31_1 a32 H fr e_31 e_32 x h
    unfold q_X10_numberNear_L4 at h
    refine go_step (fun _ => ev_run 2 (F' := (6, [some (.ref 23), some (.ref 17), some (.int l2), some (.int l3)], [.ref 23, .int l3])) rfl) ?_
    refine go_step (fun _ => ev_getf rfl ((fr 23 rfl).trans u_23) rfl) ?_
    refine go_icmp rfl (fun (b9 : c23_4 ≤ l3) => ?_) (fun (b9 : ¬ (c23_4 ≤ l3)) => ?_)
    · have h := (if_pos b9).symm.trans h
      refine go_step (fun _ => ev_forget (L' := [none, none, some (.int l2), none]) (show xleP _ [some (.ref 23), some (.ref 17), some (.int l2), some (.int l3)] from ⟨rfl, trivial⟩) rfl) ?_
      cases h
      exact Or.inl ⟨_, _, fun r hr => hr, _, H, rfl, rfl, rfl, e_31, e_32, fr⟩
    · have h := (if_neg b9).symm.trans h
      refine go_step (fun _ => ev_run 1 (F' := (13, [some (.ref 23), some (.ref 17), some (.int l2), some (.int l3)], [.ref 23])) rfl) ?_
      refine go_step (fun _ => ev_getf rfl ((fr 23 rfl).trans u_23) rfl) ?_
      refine go_step (fun _ => ev_run 2 (F' := (18, [some (.ref 23), some (.ref 17), some (.int l2), some (.int l3)], [.ref 23, .int l3, .ref 24])) rfl) ?_
      refine go_step (fun _ => ev_getf rfl ((fr 23 rfl).trans u_23) rfl) ?_
      obtain ⟨y1, hy1, h⟩ := okb h
      obtain ⟨H2, hCH2, eH2_31, eH2_32, fH2⟩ := C_X8_read (S := S) (d := d) (z := z) (x1 := l3) e_31 ((fr 24 rfl).trans u_24) ((fr 26 rfl).trans u_26) ((fr 25 rfl).trans u_25) e_32 (nb rfl) (nb rfl) (nb rfl) (nb rfl) (nb rfl) (nb rfl) (nb rfl) (by decide) hy1
      refine go_step (F1 := (24, [some (.ref 23), some (.ref 17), some (.int l2), some (.int l3)], [])) (M1 := (H2, z)) (fun _ => ev_callV (x := (.invokevirtual 41, 3, 80, 7, 1081, .null)) (as := [.int l3, .ref 31]) (rest := []) rfl rfl ((fr 24 rfl).trans u_24) hCH2 rfl) ?_
      refine go_step (fun _ => ev_run 1 (F' := (25, [some (.ref 23), some (.ref 17), some (.int l2), some (.int l3)], [.ref 23])) rfl) ?_
      refine go_step (fun _ => ev_getf rfl ((fH2 23 rfl).trans ((fr 23 rfl).trans u_23)) rfl) ?_
      refine go_step (fun _ => ev_run 1 (F' := (29, [some (.ref 23), some (.ref 17), some (.int l2), some (.int l3)], [.ref 17, .ref 31])) rfl) ?_
      obtain ⟨y3, hy3, h⟩ := okb h
      refine go_step (F1 := (32, [some (.ref 23), some (.ref 17), some (.int l2), some (.int l3)], [.int y3])) (M1 := (H2, z)) (fun _ => ev_call (x := (.invokestatic 48, 3, 98, 9, 1105, .null)) (as := [.ref 31, .ref 17]) (rest := []) rfl rfl (C_X10_isOneSlip (S := S) (d := d + 2) (z := z) eH2_31 ((fH2 17 rfl).trans ((fr 17 rfl).trans u_17)) eH2_32 ((fH2 18 rfl).trans ((fr 18 rfl).trans u_18)) hy3) rfl) ?_
      refine go_if rfl (fun (b32 : y3 = (0 : Int32)) => ?_) (fun (b32 : ¬ (y3 = (0 : Int32))) => ?_)
      · have h := (if_pos b32).symm.trans h
        refine go_step (fun _ => ev_run 2 (F' := (4, [some (.ref 23), some (.ref 17), some (.int l2), some (.int (l3 + (1 : Int32)))], [])) rfl) ?_
        exact ih l2 (l3 + (1 : Int32)) y1.1 y1.2 H2 (xfr_t fr rfl fH2) eH2_31 eH2_32 _ h
      · have h := (if_neg b32).symm.trans h
        refine go_step (fun _ => ev_run 1 (F' := (36, [some (.ref 23), some (.ref 17), some (.int l2), some (.int l3)], [.int l2])) rfl) ?_
        refine go_if rfl (fun (b36 : l2 < (0 : Int32)) => ?_) (fun (b36 : ¬ (l2 < (0 : Int32))) => ?_)
        · have h := (if_pos b36).symm.trans h
          refine go_step (fun _ => ev_run 4 (F' := (4, [some (.ref 23), some (.ref 17), some (.int l3), some (.int (l3 + (1 : Int32)))], [])) rfl) ?_
          exact ih l3 (l3 + (1 : Int32)) y1.1 y1.2 H2 (xfr_t fr rfl fH2) eH2_31 eH2_32 _ h
        · have h := (if_neg b36).symm.trans h
          refine go_step (fun _ => ev_run 1 (F' := (41, [some (.ref 23), some (.ref 17), some (.int l2), some (.int l3)], [.int (-2 : Int32)])) rfl) ?_
          cases h
          exact Or.inr ⟨_, ev_ret rfl rfl rfl rfl, _, H2, rfl, rfl, eH2_31, eH2_32, (xfr_t fr rfl fH2)⟩
theorem C_X10_numberNear {S : Nat × (Nat → Int32)} {d : Nat} {H : List xE} {z : Bool × Nat × Nat} {c23_4 : Int32} {c24_0 : Int32} {c31_1 : Int32} {a26 : Nat → Int32} {a25 : Nat → Int32} {a32 : Nat → Int32} {c17_1 : Int32} {a18 : Nat → Int32} (u_23 : H[23]? = some (.inr (9, [.ref 24, .ref 27, .ref 29, .ref 31, .int c23_4]))) (u_24 : H[24]? = some (.inr (7, [.int c24_0, .ref 25, .ref 26]))) (u_31 : H[31]? = some (.inr (4, [.ref 32, .int c31_1]))) (u_26 : H[26]? = some (.inl (0, 20, .inl a26))) (u_25 : H[25]? = some (.inl (0, 180, .inl a25))) (u_32 : H[32]? = some (.inl (0, 9, .inl a32))) (u_17 : H[17]? = some (.inr (4, [.ref 18, .int c17_1]))) (u_18 : H[18]? = some (.inl (0, 18, .inl a18))) {x : (Int32 × Int32 × (Nat → Int32))} (h : q_X10_numberNear c23_4 c24_0 c31_1 a26 a25 a32 c17_1 a18 = some x) : ∃ H' : List xE, Cm S (d + 4) 96 [.ref 23, .ref 17] (H, z) (.inr (some (.int x.1)), (H', z)) ∧ H'[31]? = some (.inr (4, [.ref 32, .int x.2.1])) ∧ H'[32]? = some (.inl (0, 9, .inl x.2.2)) ∧ xfr [31, 32] H H' := by
  have G : Go S (d + 4) 96 (0, [some (.ref 23), some (.ref 17), none, none], []) (H, z) (fun _ _ => False) (fun r => ∃ H' : List xE, r = (.inr (some (.int x.1)), (H', z)) ∧ H'[31]? = some (.inr (4, [.ref 32, .int x.2.1])) ∧ H'[32]? = some (.inl (0, 9, .inl x.2.2)) ∧ xfr [31, 32] H H') := by
    unfold q_X10_numberNear at h
    refine go_step (fun _ => ev_run 4 (F' := (4, [some (.ref 23), some (.ref 17), some (.int (-1 : Int32)), some (.int (0 : Int32))], [])) rfl) ?_
    rcases okl h with ⟨y1, hy1, h⟩ | ⟨y1, hy1, h⟩
    · rcases L_X10_numberNear_L4 (S := S) (d := d) (z := z) u_23 u_24 u_26 u_25 u_17 u_18 10000 (-1 : Int32) (0 : Int32) c31_1 a32 H xfr_refl u_31 u_32 _ hy1 with ⟨_, _, hr2, _, H4, hx3, rfl, rfl, eH4_31, eH4_32, fH4⟩ | ⟨_, _, _, _, hx3, _⟩
      · cases hx3
        refine go_step hr2 ?_
        refine go_step (fun _ => ev_run 1 (F' := (51, [none, none, some (.int y1.1), none], [.int y1.1])) rfl) ?_
        cases h
        exact Or.inr ⟨_, ev_ret rfl rfl rfl rfl, H4, rfl, eH4_31, eH4_32, (xfr_t xfr_refl rfl fH4)⟩
      · cases hx3
    · rcases L_X10_numberNear_L4 (S := S) (d := d) (z := z) u_23 u_24 u_26 u_25 u_17 u_18 10000 (-1 : Int32) (0 : Int32) c31_1 a32 H xfr_refl u_31 u_32 _ hy1 with ⟨_, _, _, _, _, hx3, _⟩ | ⟨_, hE6, _, H7, hx3, rfl, eH7_31, eH7_32, fH7⟩
      · cases hx3
      · cases hx3
        cases h
        exact Or.inr ⟨_, hE6, H7, rfl, eH7_31, eH7_32, (xfr_t xfr_refl rfl fH7)⟩
  obtain ⟨_, hE, H', rfl, hrest⟩ := go_end G
  exact ⟨H', hE, hrest⟩
def q_X10_numberBehind_L16 (c23_4 : Int32) (c24_0 : Int32) (c27_1 : Int32) (a26 : Nat → Int32) (a25 : Nat → Int32) (a28 : Nat → Int32) : Nat → Int32 → Int32 → Int32 → (Nat → Int32) → Int32 → (Nat → Int32) → Option (Int32 × Int32 × Int32 × (Nat → Int32) × Int32 × (Nat → Int32))
  | 0, _, _, _, _, _, _ => none
  | n + 1, l2, l3, c31_1, a32, c29_1, a30 => (if c23_4 ≤ l3 then (some (l2, l3, c31_1, a32, c29_1, a30)) else ((q_X8_read l3 c24_0 20 a26 180 a25 9 a32).bind (fun y1 => ((q_X5_compareAsText y1.1 c27_1 9 y1.2 9 a28).bind (fun y3 => (if y3 ≤ (0 : Int32) then (q_X10_numberBehind_L16 c23_4 c24_0 c27_1 a26 a25 a28 n l2 (l3 + (1 : Int32)) y1.1 y1.2 c29_1 a30) else (if l2 < (0 : Int32) then ((q_X5_copy y1.1 9 a30 9 y1.2).bind (fun y4 => (q_X10_numberBehind_L16 c23_4 c24_0 c27_1 a26 a25 a28 n l3 (l3 + (1 : Int32)) y1.1 y1.2 y4.1 y4.2))) else ((q_X5_compareAsText y1.1 c29_1 9 y1.2 9 a30).bind (fun y6 => (if (0 : Int32) ≤ y6 then (q_X10_numberBehind_L16 c23_4 c24_0 c27_1 a26 a25 a28 n l2 (l3 + (1 : Int32)) y1.1 y1.2 c29_1 a30) else ((q_X5_copy y1.1 9 a30 9 y1.2).bind (fun y7 => (q_X10_numberBehind_L16 c23_4 c24_0 c27_1 a26 a25 a28 n l3 (l3 + (1 : Int32)) y1.1 y1.2 y7.1 y7.2)))))))))))))
def q_X10_numberBehind (x1 : Int32) (c23_4 : Int32) (c24_0 : Int32) (a26 : Nat → Int32) (a25 : Nat → Int32) (a28 : Nat → Int32) (c31_1 : Int32) (a32 : Nat → Int32) (c29_1 : Int32) (a30 : Nat → Int32) : Option (Int32 × Int32 × (Nat → Int32) × Int32 × (Nat → Int32) × Int32 × (Nat → Int32)) := ((q_X8_read x1 c24_0 20 a26 180 a25 9 a28).bind (fun y1 => ((q_X10_numberBehind_L16 c23_4 c24_0 y1.1 a26 a25 y1.2 10000 (-1 : Int32) (0 : Int32) c31_1 a32 c29_1 a30).bind (fun y3 => (some (y3.1, y1.1, y1.2, y3.2.2.1, y3.2.2.2.1, y3.2.2.2.2.1, y3.2.2.2.2.2))))))
theorem L_X10_numberBehind_L16 {S : Nat × (Nat → Int32)} {d : Nat} {z : Bool × Nat × Nat} {c23_4 : Int32} {c24_0 : Int32} {c27_1 : Int32} {a26 : Nat → Int32} {a25 : Nat → Int32} {a28 : Nat → Int32} {H0 : List xE} (u_23 : H0[23]? = some (.inr (9, [.ref 24, .ref 27, .ref 29, .ref 31, .int c23_4]))) (u_24 : H0[24]? = some (.inr (7, [.int c24_0, .ref 25, .ref 26]))) (u_27 : H0[27]? = some (.inr (4, [.ref 28, .int c27_1]))) (u_26 : H0[26]? = some (.inl (0, 20, .inl a26))) (u_25 : H0[25]? = some (.inl (0, 180, .inl a25))) (u_28 : H0[28]? = some (.inl (0, 9, .inl a28))) : ∀ (n : Nat) (l2 : Int32) (l3 : Int32) (c31_1 : Int32) (a32 : Nat → Int32) (c29_1 : Int32) (a30 : Nat → Int32) (H : List xE), xfr [31, 32, 29, 30] H0 H → H[31]? = some (.inr (4, [.ref 32, .int c31_1])) → H[32]? = some (.inl (0, 9, .inl a32)) → H[29]? = some (.inr (4, [.ref 30, .int c29_1])) → H[30]? = some (.inl (0, 9, .inl a30)) → ∀ x, q_X10_numberBehind_L16 c23_4 c24_0 c27_1 a26 a25 a28 n l2 l3 c31_1 a32 c29_1 a30 = some x → Go S (d + 4) 97 (16, [some (.ref 23), none, some (.int l2), some (.int l3)], []) (H, z) (fun F' M' => ∃ H' : List xE, F' = (87, [none, none, some (.int x.1), none], []) ∧ M' = (H', z) ∧ H'[31]? = some (.inr (4, [.ref 32, .int x.2.2.1])) ∧ H'[32]? = some (.inl (0, 9, .inl x.2.2.2.1)) ∧ H'[29]? = some (.inr (4, [.ref 30, .int x.2.2.2.2.1])) ∧ H'[30]? = some (.inl (0, 9, .inl x.2.2.2.2.2)) ∧ xfr [31, 32, 29, 30] H0 H') (fun _ => False) := by
  intro n
  induction n with
  | zero =>
    intro l2 l3 c31_1 a32 c29_1 a30 H fr e_31 e_32 e_29 e_30 x h
    unfold q_X10_numberBehind_L16 at h
    cases h
  | succ n ih =>
    intro l2 l3 c31_1 a32 c29_1 a30 H fr e_31 e_32 e_29 e_30 x h
    unfold q_X10_numberBehind_L16 at h
    refine go_step (fun _ => ev_run 2 (F' := (18, [some (.ref 23), none, some (.int l2), some (.int l3)], [.ref 23, .int l3])) rfl) ?_
    refine go_step (fun _ => ev_getf rfl ((fr 23 rfl).trans u_23) rfl) ?_
    refine go_icmp rfl (fun (b21 : c23_4 ≤ l3) => ?_) (fun (b21 : ¬ (c23_4 ≤ l3)) => ?_)
    · have h := (if_pos b21).symm.trans h
      refine go_step (fun _ => ev_forget (L' := [none, none, some (.int l2), none]) (show xleP _ [some (.ref 23), none, some (.int l2), some (.int l3)] from ⟨rfl, trivial⟩) rfl) ?_
      cases h
      exact Or.inl ⟨_, _, fun r hr => hr, H, rfl, rfl, e_31, e_32, e_29, e_30, fr⟩
    · have h := (if_neg b21).symm.trans h
      refine go_step (fun _ => ev_run 1 (F' := (25, [some (.ref 23), none, some (.int l2), some (.int l3)], [.ref 23])) rfl) ?_
      refine go_step (fun _ => ev_getf rfl ((fr 23 rfl).trans u_23) rfl) ?_
      refine go_step (fun _ => ev_run 2 (F' := (30, [some (.ref 23), none, some (.int l2), some (.int l3)], [.ref 23, .int l3, .ref 24])) rfl) ?_
      refine go_step (fun _ => ev_getf rfl ((fr 23 rfl).trans u_23) rfl) ?_
      obtain ⟨y1, hy1, h⟩ := okb h
      obtain ⟨H2, hCH2, eH2_31, eH2_32, fH2⟩ := C_X8_read (S := S) (d := d) (z := z) (x1 := l3) e_31 ((fr 24 rfl).trans u_24) ((fr 26 rfl).trans u_26) ((fr 25 rfl).trans u_25) e_32 (nb rfl) (nb rfl) (nb rfl) (nb rfl) (nb rfl) (nb rfl) (nb rfl) (by decide) hy1
      refine go_step (F1 := (36, [some (.ref 23), none, some (.int l2), some (.int l3)], [])) (M1 := (H2, z)) (fun _ => ev_callV (x := (.invokevirtual 41, 3, 80, 7, 1081, .null)) (as := [.int l3, .ref 31]) (rest := []) rfl rfl ((fr 24 rfl).trans u_24) hCH2 rfl) ?_
      refine go_step (fun _ => ev_run 1 (F' := (37, [some (.ref 23), none, some (.int l2), some (.int l3)], [.ref 23])) rfl) ?_
      refine go_step (fun _ => ev_getf rfl ((fH2 23 rfl).trans ((fr 23 rfl).trans u_23)) rfl) ?_
      refine go_step (fun _ => ev_run 1 (F' := (41, [some (.ref 23), none, some (.int l2), some (.int l3)], [.ref 23, .ref 31])) rfl) ?_
      refine go_step (fun _ => ev_getf rfl ((fH2 23 rfl).trans ((fr 23 rfl).trans u_23)) rfl) ?_
      obtain ⟨y3, hy3, h⟩ := okb h
      refine go_step (F1 := (47, [some (.ref 23), none, some (.int l2), some (.int l3)], [.int y3])) (M1 := (H2, z)) (fun _ => ev_callV (x := (.invokevirtual 44, 3, 61, 4, 1082, .null)) (as := [.ref 27]) (rest := []) rfl rfl eH2_31 (C_X5_compareAsText (S := S) (d := d + 2) (z := z) eH2_31 ((fH2 27 rfl).trans ((fr 27 rfl).trans u_27)) eH2_32 ((fH2 28 rfl).trans ((fr 28 rfl).trans u_28)) (by decide) (by decide) hy3) rfl) ?_
      refine go_if rfl (fun (b47 : y3 ≤ (0 : Int32)) => ?_) (fun (b47 : ¬ (y3 ≤ (0 : Int32))) => ?_)
      · have h := (if_pos b47).symm.trans h
        refine go_step (fun _ => ev_run 2 (F' := (16, [some (.ref 23), none, some (.int l2), some (.int (l3 + (1 : Int32)))], [])) rfl) ?_
        exact ih l2 (l3 + (1 : Int32)) y1.1 y1.2 c29_1 a30 H2 (xfr_t fr rfl fH2) eH2_31 eH2_32 ((fH2 29 rfl).trans e_29) ((fH2 30 rfl).trans e_30) _ h
      · have h := (if_neg b47).symm.trans h
        refine go_step (fun _ => ev_run 1 (F' := (51, [some (.ref 23), none, some (.int l2), some (.int l3)], [.int l2])) rfl) ?_
        refine go_if rfl (fun (b51 : l2 < (0 : Int32)) => ?_) (fun (b51 : ¬ (l2 < (0 : Int32))) => ?_)
        · have h := (if_pos b51).symm.trans h
          refine go_step (fun _ => ev_run 3 (F' := (71, [some (.ref 23), none, some (.int l3), some (.int l3)], [.ref 23])) rfl) ?_
          refine go_step (fun _ => ev_getf rfl ((fH2 23 rfl).trans ((fr 23 rfl).trans u_23)) rfl) ?_
          refine go_step (fun _ => ev_run 1 (F' := (75, [some (.ref 23), none, some (.int l3), some (.int l3)], [.ref 23, .ref 29])) rfl) ?_
          refine go_step (fun _ => ev_getf rfl ((fH2 23 rfl).trans ((fr 23 rfl).trans u_23)) rfl) ?_
          obtain ⟨y4, hy4, h⟩ := okb h
          obtain ⟨H5, hCH5, eH5_29, eH5_30, fH5⟩ := C_X5_copy (S := S) (d := d + 2) (z := z) eH2_31 ((fH2 29 rfl).trans e_29) ((fH2 30 rfl).trans e_30) eH2_32 (nb rfl) (nb rfl) (nb rfl) (nb rfl) (nb rfl) (by decide) (by decide) hy4
          refine go_step (F1 := (81, [some (.ref 23), none, some (.int l3), some (.int l3)], [])) (M1 := (H5, z)) (fun _ => ev_callV (x := (.invokevirtual 52, 3, 60, 4, 1123, .null)) (as := [.ref 31]) (rest := []) rfl rfl ((fH2 29 rfl).trans e_29) hCH5 rfl) ?_
          refine go_step (fun _ => ev_run 2 (F' := (16, [some (.ref 23), none, some (.int l3), some (.int (l3 + (1 : Int32)))], [])) rfl) ?_
          exact ih l3 (l3 + (1 : Int32)) y1.1 y1.2 y4.1 y4.2 H5 (xfr_t (xfr_t fr rfl fH2) rfl fH5) ((fH5 31 rfl).trans eH2_31) ((fH5 32 rfl).trans eH2_32) eH5_29 eH5_30 _ h
        · have h := (if_neg b51).symm.trans h
          refine go_step (fun _ => ev_run 1 (F' := (55, [some (.ref 23), none, some (.int l2), some (.int l3)], [.ref 23])) rfl) ?_
          refine go_step (fun _ => ev_getf rfl ((fH2 23 rfl).trans ((fr 23 rfl).trans u_23)) rfl) ?_
          refine go_step (fun _ => ev_run 1 (F' := (59, [some (.ref 23), none, some (.int l2), some (.int l3)], [.ref 23, .ref 31])) rfl) ?_
          refine go_step (fun _ => ev_getf rfl ((fH2 23 rfl).trans ((fr 23 rfl).trans u_23)) rfl) ?_
          obtain ⟨y6, hy6, h⟩ := okb h
          refine go_step (F1 := (65, [some (.ref 23), none, some (.int l2), some (.int l3)], [.int y6])) (M1 := (H2, z)) (fun _ => ev_callV (x := (.invokevirtual 44, 3, 61, 4, 1082, .null)) (as := [.ref 29]) (rest := []) rfl rfl eH2_31 (C_X5_compareAsText (S := S) (d := d + 2) (z := z) eH2_31 ((fH2 29 rfl).trans e_29) eH2_32 ((fH2 30 rfl).trans e_30) (by decide) (by decide) hy6) rfl) ?_
          refine go_if rfl (fun (b65 : (0 : Int32) ≤ y6) => ?_) (fun (b65 : ¬ ((0 : Int32) ≤ y6)) => ?_)
          · have h := (if_pos b65).symm.trans h
            refine go_step (fun _ => ev_run 2 (F' := (16, [some (.ref 23), none, some (.int l2), some (.int (l3 + (1 : Int32)))], [])) rfl) ?_
            exact ih l2 (l3 + (1 : Int32)) y1.1 y1.2 c29_1 a30 H2 (xfr_t fr rfl fH2) eH2_31 eH2_32 ((fH2 29 rfl).trans e_29) ((fH2 30 rfl).trans e_30) _ h
          · have h := (if_neg b65).symm.trans h
            refine go_step (fun _ => ev_run 3 (F' := (71, [some (.ref 23), none, some (.int l3), some (.int l3)], [.ref 23])) rfl) ?_
            refine go_step (fun _ => ev_getf rfl ((fH2 23 rfl).trans ((fr 23 rfl).trans u_23)) rfl) ?_
            refine go_step (fun _ => ev_run 1 (F' := (75, [some (.ref 23), none, some (.int l3), some (.int l3)], [.ref 23, .ref 29])) rfl) ?_
            refine go_step (fun _ => ev_getf rfl ((fH2 23 rfl).trans ((fr 23 rfl).trans u_23)) rfl) ?_
            obtain ⟨y7, hy7, h⟩ := okb h
            obtain ⟨H8, hCH8, eH8_29, eH8_30, fH8⟩ := C_X5_copy (S := S) (d := d + 2) (z := z) eH2_31 ((fH2 29 rfl).trans e_29) ((fH2 30 rfl).trans e_30) eH2_32 (nb rfl) (nb rfl) (nb rfl) (nb rfl) (nb rfl) (by decide) (by decide) hy7
            refine go_step (F1 := (81, [some (.ref 23), none, some (.int l3), some (.int l3)], [])) (M1 := (H8, z)) (fun _ => ev_callV (x := (.invokevirtual 52, 3, 60, 4, 1123, .null)) (as := [.ref 31]) (rest := []) rfl rfl ((fH2 29 rfl).trans e_29) hCH8 rfl) ?_
            refine go_step (fun _ => ev_run 2 (F' := (16, [some (.ref 23), none, some (.int l3), some (.int (l3 + (1 : Int32)))], [])) rfl) ?_
            exact ih l3 (l3 + (1 : Int32)) y1.1 y1.2 y7.1 y7.2 H8 (xfr_t (xfr_t fr rfl fH2) rfl fH8) ((fH8 31 rfl).trans eH2_31) ((fH8 32 rfl).trans eH2_32) eH8_29 eH8_30 _ h
theorem C_X10_numberBehind {S : Nat × (Nat → Int32)} {d : Nat} {H : List xE} {z : Bool × Nat × Nat} {c23_4 : Int32} {c24_0 : Int32} {c27_1 : Int32} {a26 : Nat → Int32} {a25 : Nat → Int32} {a28 : Nat → Int32} {c31_1 : Int32} {a32 : Nat → Int32} {c29_1 : Int32} {a30 : Nat → Int32} {x1 : Int32} (u_23 : H[23]? = some (.inr (9, [.ref 24, .ref 27, .ref 29, .ref 31, .int c23_4]))) (u_24 : H[24]? = some (.inr (7, [.int c24_0, .ref 25, .ref 26]))) (u_27 : H[27]? = some (.inr (4, [.ref 28, .int c27_1]))) (u_26 : H[26]? = some (.inl (0, 20, .inl a26))) (u_25 : H[25]? = some (.inl (0, 180, .inl a25))) (u_28 : H[28]? = some (.inl (0, 9, .inl a28))) (u_31 : H[31]? = some (.inr (4, [.ref 32, .int c31_1]))) (u_32 : H[32]? = some (.inl (0, 9, .inl a32))) (u_29 : H[29]? = some (.inr (4, [.ref 30, .int c29_1]))) (u_30 : H[30]? = some (.inl (0, 9, .inl a30))) {x : (Int32 × Int32 × (Nat → Int32) × Int32 × (Nat → Int32) × Int32 × (Nat → Int32))} (h : q_X10_numberBehind x1 c23_4 c24_0 a26 a25 a28 c31_1 a32 c29_1 a30 = some x) : ∃ H' : List xE, Cm S (d + 4) 97 [.ref 23, .int x1] (H, z) (.inr (some (.int x.1)), (H', z)) ∧ H'[27]? = some (.inr (4, [.ref 28, .int x.2.1])) ∧ H'[28]? = some (.inl (0, 9, .inl x.2.2.1)) ∧ H'[31]? = some (.inr (4, [.ref 32, .int x.2.2.2.1])) ∧ H'[32]? = some (.inl (0, 9, .inl x.2.2.2.2.1)) ∧ H'[29]? = some (.inr (4, [.ref 30, .int x.2.2.2.2.2.1])) ∧ H'[30]? = some (.inl (0, 9, .inl x.2.2.2.2.2.2)) ∧ xfr [27, 28, 31, 32, 29, 30] H H' := by
  have G : Go S (d + 4) 97 (0, [some (.ref 23), some (.int x1), none, none], []) (H, z) (fun _ _ => False) (fun r => ∃ H' : List xE, r = (.inr (some (.int x.1)), (H', z)) ∧ H'[27]? = some (.inr (4, [.ref 28, .int x.2.1])) ∧ H'[28]? = some (.inl (0, 9, .inl x.2.2.1)) ∧ H'[31]? = some (.inr (4, [.ref 32, .int x.2.2.2.1])) ∧ H'[32]? = some (.inl (0, 9, .inl x.2.2.2.2.1)) ∧ H'[29]? = some (.inr (4, [.ref 30, .int x.2.2.2.2.2.1])) ∧ H'[30]? = some (.inl (0, 9, .inl x.2.2.2.2.2.2)) ∧ xfr [27, 28, 31, 32, 29, 30] H H') := by
    unfold q_X10_numberBehind at h
    refine go_step (fun _ => ev_run 3 (F' := (3, [some (.ref 23), some (.int x1), some (.int (-1 : Int32)), none], [.ref 23])) rfl) ?_
    refine go_step (fun _ => ev_getf rfl u_23 rfl) ?_
    refine go_step (fun _ => ev_run 2 (F' := (8, [some (.ref 23), some (.int x1), some (.int (-1 : Int32)), none], [.ref 23, .int x1, .ref 24])) rfl) ?_
    refine go_step (fun _ => ev_getf rfl u_23 rfl) ?_
    obtain ⟨y1, hy1, h⟩ := okb h
    obtain ⟨H2, hCH2, eH2_27, eH2_28, fH2⟩ := C_X8_read (S := S) (d := d) (z := z) (x1 := x1) u_27 u_24 u_26 u_25 u_28 (nb rfl) (nb rfl) (nb rfl) (nb rfl) (nb rfl) (nb rfl) (nb rfl) (by decide) hy1
    refine go_step (F1 := (14, [some (.ref 23), some (.int x1), some (.int (-1 : Int32)), none], [])) (M1 := (H2, z)) (fun _ => ev_callV (x := (.invokevirtual 41, 3, 80, 7, 1081, .null)) (as := [.int x1, .ref 27]) (rest := []) rfl rfl u_24 hCH2 rfl) ?_
    refine go_step (fun _ => ev_run 2 (F' := (16, [some (.ref 23), some (.int x1), some (.int (-1 : Int32)), some (.int (0 : Int32))], [])) rfl) ?_
    refine go_step (fun _ => ev_forget (L' := [some (.ref 23), none, some (.int (-1 : Int32)), some (.int (0 : Int32))]) (show xleP _ [some (.ref 23), some (.int x1), some (.int (-1 : Int32)), some (.int (0 : Int32))] from ⟨rfl, ⟨rfl, ⟨rfl, trivial⟩⟩⟩) rfl) ?_
    obtain ⟨y3, hy3, h⟩ := okb h
    obtain ⟨_, _, hr5, H4, rfl, rfl, eH4_31, eH4_32, eH4_29, eH4_30, fH4⟩ := go_nr (L_X10_numberBehind_L16 (S := S) (d := d) (z := z) ((fH2 23 rfl).trans u_23) ((fH2 24 rfl).trans u_24) eH2_27 ((fH2 26 rfl).trans u_26) ((fH2 25 rfl).trans u_25) eH2_28 10000 (-1 : Int32) (0 : Int32) c31_1 a32 c29_1 a30 H2 xfr_refl ((fH2 31 rfl).trans u_31) ((fH2 32 rfl).trans u_32) ((fH2 29 rfl).trans u_29) ((fH2 30 rfl).trans u_30) _ hy3)
    refine go_step hr5 ?_
    refine go_step (fun _ => ev_run 1 (F' := (88, [none, none, some (.int y3.1), none], [.int y3.1])) rfl) ?_
    cases h
    exact Or.inr ⟨_, ev_ret rfl rfl rfl rfl, H4, rfl, ((fH4 27 rfl).trans eH2_27), ((fH4 28 rfl).trans eH2_28), eH4_31, eH4_32, eH4_29, eH4_30, (xfr_t (xfr_t xfr_refl rfl fH2) rfl fH4)⟩
  obtain ⟨_, hE, H', rfl, hrest⟩ := go_end G
  exact ⟨H', hE, hrest⟩

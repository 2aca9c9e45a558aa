/-! Functions of the methods, and that the small machine does what they say: written by a program (wip/whole/dec). -/
def q_X6_checkByDoubling_L11 (mq0 : Nat) (aq0 : Nat → Int32) : Nat → Int32 → Int32 → Int32 → Option (Int32 × Int32 × Int32)
  | 0, _, _, _ => none
  | n + 1, l1, l2, l3 => (if l3 < (0 : Int32) then (some (l1, l2, l3)) else (q_X6_checkByDoubling_L11 mq0 aq0 n (l1 + (if (if l2 = (0 : Int32) then (t_X5_at l3 mq0 aq0) else ((2 : Int32) * (t_X5_at l3 mq0 aq0))) ≤ (9 : Int32) then (if l2 = (0 : Int32) then (t_X5_at l3 mq0 aq0) else ((2 : Int32) * (t_X5_at l3 mq0 aq0))) else ((if l2 = (0 : Int32) then (t_X5_at l3 mq0 aq0) else ((2 : Int32) * (t_X5_at l3 mq0 aq0))) - (9 : Int32)))) (if ¬ l2 = (0 : Int32) then (0 : Int32) else (1 : Int32)) (l3 + (-1 : Int32))))
def q_X6_checkByDoubling (ch0_1 : Int32) (mq0 : Nat) (aq0 : Nat → Int32) : Option Int32 := ((q_X6_checkByDoubling_L11 mq0 aq0 10000 (0 : Int32) (1 : Int32) ((t_X5_size ch0_1) - (1 : Int32))).bind (fun y1 => (some (((10 : Int32) - (y1.1 - y1.1 / (10 : Int32) * (10 : Int32))) - ((10 : Int32) - (y1.1 - y1.1 / (10 : Int32) * (10 : Int32))) / (10 : Int32) * (10 : Int32)))))
theorem L_X6_checkByDoubling_L11 {S : Nat × (Nat → Int32)} {d : Nat} {z : Bool × Nat × Nat} {h0 q0 : Nat} {ch0_1 : Int32} {mq0 : Nat} {aq0 : Nat → Int32} {H : List xE} (u_h0 : H[h0]? = some (.inr (4, [.ref q0, .int ch0_1]))) (u_q0 : H[q0]? = some (.inl (0, mq0, .inl aq0))) (hm_q0 : mq0 < 2147483648) : ∀ (n : Nat) (l1 : Int32) (l2 : Int32) (l3 : Int32) x, q_X6_checkByDoubling_L11 mq0 aq0 n l1 l2 l3 = some x → Go S (d + 1) 67 (11, [some (.ref h0), some (.int l1), some (.int l2), some (.int l3), none], []) (H, z) (fun F' M' =>  F' = (72, [none, some (.int x.1), none, none, none], []) ∧ M' = (H, z)) (fun _ => False) := by
  intro n
  induction n with
  | zero =>
    intro l1 l2 l3 x h
    unfold q_X6_checkByDoubling_L11 at h
    cases h
  | succ n ih =>
    intro l1 l2 l3 x h
    unfold q_X6_checkByDoubling_L11 at h
    refine go_step (fun _ => ev_run 1 (F' := (12, [some (.ref h0), some (.int l1), some (.int l2), some (.int l3), none], [.int l3])) rfl) ?_
    refine go_if rfl (fun (b12 : l3 < (0 : Int32)) => ?_) (fun (b12 : ¬ (l3 < (0 : Int32))) => ?_)
    · have h := (if_pos b12).symm.trans h
      refine go_step (fun _ => ev_forget (L' := [none, some (.int l1), none, none, none]) (show xleP _ [some (.ref h0), some (.int l1), some (.int l2), some (.int l3), none] from ⟨rfl, trivial⟩) rfl) ?_
      cases h
      exact Or.inl ⟨_, _, fun r hr => hr, rfl, rfl⟩
    · have h := (if_neg b12).symm.trans h
      refine go_step (fun _ => ev_run 1 (F' := (16, [some (.ref h0), some (.int l1), some (.int l2), some (.int l3), none], [.int l2])) rfl) ?_
      refine go_step (F1 := (34, [some (.ref h0), some (.int l1), some (.int l2), some (.int l3), none], [.int (if l2 = (0 : Int32) then (t_X5_at l3 mq0 aq0) else ((2 : Int32) * (t_X5_at l3 mq0 aq0)))])) (M1 := (H, z)) (fun r K => ?_) ?_
      · skip
        refine ev_if rfl (fun (b16 : l2 = (0 : Int32)) => ?_) (fun (b16 : ¬ (l2 = (0 : Int32))) => ?_)
        · skip
          refine ev_run 2 (F' := (31, [some (.ref h0), some (.int l1), some (.int l2), some (.int l3), none], [.int l3, .ref h0])) rfl ?_
          refine ev_callV (x := (.invokevirtual 55, 3, 55, 4, 595, .null)) (as := [.int l3]) (rest := []) rfl rfl u_h0 (C_X5_at (S := S) (d := d) (z := z) (x1 := l3) u_h0 u_q0 hm_q0) rfl ?_
          exact ev_cast (show ((34, [some (.ref h0), some (.int l1), some (.int l2), some (.int l3), none], [.int (t_X5_at l3 mq0 aq0)]) : xF) = (34, [some (.ref h0), some (.int l1), some (.int l2), some (.int l3), none], [.int (if l2 = (0 : Int32) then (t_X5_at l3 mq0 aq0) else ((2 : Int32) * (t_X5_at l3 mq0 aq0)))]) by first | (simp only [if_pos b16]; done) | rfl) rfl K
        · skip
          refine ev_run 3 (F' := (22, [some (.ref h0), some (.int l1), some (.int l2), some (.int l3), none], [.int l3, .ref h0, .int (2 : Int32)])) rfl ?_
          refine ev_callV (x := (.invokevirtual 55, 3, 55, 4, 595, .null)) (as := [.int l3]) (rest := [.int (2 : Int32)]) rfl rfl u_h0 (C_X5_at (S := S) (d := d) (z := z) (x1 := l3) u_h0 u_q0 hm_q0) rfl ?_
          refine ev_run 2 (F' := (34, [some (.ref h0), some (.int l1), some (.int l2), some (.int l3), none], [.int ((2 : Int32) * (t_X5_at l3 mq0 aq0))])) rfl ?_
          exact ev_cast (show ((34, [some (.ref h0), some (.int l1), some (.int l2), some (.int l3), none], [.int ((2 : Int32) * (t_X5_at l3 mq0 aq0))]) : xF) = (34, [some (.ref h0), some (.int l1), some (.int l2), some (.int l3), none], [.int (if l2 = (0 : Int32) then (t_X5_at l3 mq0 aq0) else ((2 : Int32) * (t_X5_at l3 mq0 aq0)))]) by first | (simp only [if_neg b16]; done) | rfl) rfl K
      refine go_step (fun _ => ev_run 4 (F' := (41, [some (.ref h0), some (.int l1), some (.int l2), some (.int l3), some (.int (if l2 = (0 : Int32) then (t_X5_at l3 mq0 aq0) else ((2 : Int32) * (t_X5_at l3 mq0 aq0))))], [.int (9 : Int32), .int (if l2 = (0 : Int32) then (t_X5_at l3 mq0 aq0) else ((2 : Int32) * (t_X5_at l3 mq0 aq0))), .int l1])) rfl) ?_
      refine go_step (F1 := (54, [some (.ref h0), none, some (.int l2), some (.int l3), none], [.int (if (if l2 = (0 : Int32) then (t_X5_at l3 mq0 aq0) else ((2 : Int32) * (t_X5_at l3 mq0 aq0))) ≤ (9 : Int32) then (if l2 = (0 : Int32) then (t_X5_at l3 mq0 aq0) else ((2 : Int32) * (t_X5_at l3 mq0 aq0))) else ((if l2 = (0 : Int32) then (t_X5_at l3 mq0 aq0) else ((2 : Int32) * (t_X5_at l3 mq0 aq0))) - (9 : Int32))), .int l1])) (M1 := (H, z)) (fun r K => ?_) ?_
      · skip
        refine ev_icmp rfl (fun (b41 : (if l2 = (0 : Int32) then (t_X5_at l3 mq0 aq0) else ((2 : Int32) * (t_X5_at l3 mq0 aq0))) ≤ (9 : Int32)) => ?_) (fun (b41 : ¬ ((if l2 = (0 : Int32) then (t_X5_at l3 mq0 aq0) else ((2 : Int32) * (t_X5_at l3 mq0 aq0))) ≤ (9 : Int32))) => ?_)
        · skip
          refine ev_run 1 (F' := (54, [some (.ref h0), some (.int l1), some (.int l2), some (.int l3), some (.int (if l2 = (0 : Int32) then (t_X5_at l3 mq0 aq0) else ((2 : Int32) * (t_X5_at l3 mq0 aq0))))], [.int (if l2 = (0 : Int32) then (t_X5_at l3 mq0 aq0) else ((2 : Int32) * (t_X5_at l3 mq0 aq0))), .int l1])) rfl ?_
          refine ev_forget (L' := [some (.ref h0), none, some (.int l2), some (.int l3), none]) (show xleP _ [some (.ref h0), some (.int l1), some (.int l2), some (.int l3), some (.int (if l2 = (0 : Int32) then (t_X5_at l3 mq0 aq0) else ((2 : Int32) * (t_X5_at l3 mq0 aq0))))] from ⟨rfl, ⟨rfl, ⟨rfl, trivial⟩⟩⟩) rfl ?_
          exact ev_cast (show ((54, [some (.ref h0), none, some (.int l2), some (.int l3), none], [.int (if l2 = (0 : Int32) then (t_X5_at l3 mq0 aq0) else ((2 : Int32) * (t_X5_at l3 mq0 aq0))), .int l1]) : xF) = (54, [some (.ref h0), none, some (.int l2), some (.int l3), none], [.int (if (if l2 = (0 : Int32) then (t_X5_at l3 mq0 aq0) else ((2 : Int32) * (t_X5_at l3 mq0 aq0))) ≤ (9 : Int32) then (if l2 = (0 : Int32) then (t_X5_at l3 mq0 aq0) else ((2 : Int32) * (t_X5_at l3 mq0 aq0))) else ((if l2 = (0 : Int32) then (t_X5_at l3 mq0 aq0) else ((2 : Int32) * (t_X5_at l3 mq0 aq0))) - (9 : Int32))), .int l1]) by first | (simp only [if_pos b41]; done) | rfl) rfl K
        · skip
          refine ev_run 4 (F' := (54, [some (.ref h0), some (.int l1), some (.int l2), some (.int l3), some (.int (if l2 = (0 : Int32) then (t_X5_at l3 mq0 aq0) else ((2 : Int32) * (t_X5_at l3 mq0 aq0))))], [.int ((if l2 = (0 : Int32) then (t_X5_at l3 mq0 aq0) else ((2 : Int32) * (t_X5_at l3 mq0 aq0))) - (9 : Int32)), .int l1])) rfl ?_
          refine ev_forget (L' := [some (.ref h0), none, some (.int l2), some (.int l3), none]) (show xleP _ [some (.ref h0), some (.int l1), some (.int l2), some (.int l3), some (.int (if l2 = (0 : Int32) then (t_X5_at l3 mq0 aq0) else ((2 : Int32) * (t_X5_at l3 mq0 aq0))))] from ⟨rfl, ⟨rfl, ⟨rfl, trivial⟩⟩⟩) rfl ?_
          exact ev_cast (show ((54, [some (.ref h0), none, some (.int l2), some (.int l3), none], [.int ((if l2 = (0 : Int32) then (t_X5_at l3 mq0 aq0) else ((2 : Int32) * (t_X5_at l3 mq0 aq0))) - (9 : Int32)), .int l1]) : xF) = (54, [some (.ref h0), none, some (.int l2), some (.int l3), none], [.int (if (if l2 = (0 : Int32) then (t_X5_at l3 mq0 aq0) else ((2 : Int32) * (t_X5_at l3 mq0 aq0))) ≤ (9 : Int32) then (if l2 = (0 : Int32) then (t_X5_at l3 mq0 aq0) else ((2 : Int32) * (t_X5_at l3 mq0 aq0))) else ((if l2 = (0 : Int32) then (t_X5_at l3 mq0 aq0) else ((2 : Int32) * (t_X5_at l3 mq0 aq0))) - (9 : Int32))), .int l1]) by first | (simp only [if_neg b41]; done) | rfl) rfl K
      refine go_step (fun _ => ev_run 3 (F' := (57, [some (.ref h0), some (.int (l1 + (if (if l2 = (0 : Int32) then (t_X5_at l3 mq0 aq0) else ((2 : Int32) * (t_X5_at l3 mq0 aq0))) ≤ (9 : Int32) then (if l2 = (0 : Int32) then (t_X5_at l3 mq0 aq0) else ((2 : Int32) * (t_X5_at l3 mq0 aq0))) else ((if l2 = (0 : Int32) then (t_X5_at l3 mq0 aq0) else ((2 : Int32) * (t_X5_at l3 mq0 aq0))) - (9 : Int32))))), some (.int l2), some (.int l3), none], [.int l2])) rfl) ?_
      refine go_step (F1 := (65, [some (.ref h0), some (.int (l1 + (if (if l2 = (0 : Int32) then (t_X5_at l3 mq0 aq0) else ((2 : Int32) * (t_X5_at l3 mq0 aq0))) ≤ (9 : Int32) then (if l2 = (0 : Int32) then (t_X5_at l3 mq0 aq0) else ((2 : Int32) * (t_X5_at l3 mq0 aq0))) else ((if l2 = (0 : Int32) then (t_X5_at l3 mq0 aq0) else ((2 : Int32) * (t_X5_at l3 mq0 aq0))) - (9 : Int32))))), none, some (.int l3), none], [.int (if ¬ l2 = (0 : Int32) then (0 : Int32) else (1 : Int32))])) (M1 := (H, z)) (fun r K => ?_) ?_
      · skip
        refine ev_if rfl (fun (b57 : ¬ l2 = (0 : Int32)) => ?_) (fun (b57 : ¬ (¬ l2 = (0 : Int32))) => ?_)
        · skip
          refine ev_run 1 (F' := (65, [some (.ref h0), some (.int (l1 + (if (if l2 = (0 : Int32) then (t_X5_at l3 mq0 aq0) else ((2 : Int32) * (t_X5_at l3 mq0 aq0))) ≤ (9 : Int32) then (if l2 = (0 : Int32) then (t_X5_at l3 mq0 aq0) else ((2 : Int32) * (t_X5_at l3 mq0 aq0))) else ((if l2 = (0 : Int32) then (t_X5_at l3 mq0 aq0) else ((2 : Int32) * (t_X5_at l3 mq0 aq0))) - (9 : Int32))))), some (.int l2), some (.int l3), none], [.int (0 : Int32)])) rfl ?_
          refine ev_forget (L' := [some (.ref h0), some (.int (l1 + (if (if l2 = (0 : Int32) then (t_X5_at l3 mq0 aq0) else ((2 : Int32) * (t_X5_at l3 mq0 aq0))) ≤ (9 : Int32) then (if l2 = (0 : Int32) then (t_X5_at l3 mq0 aq0) else ((2 : Int32) * (t_X5_at l3 mq0 aq0))) else ((if l2 = (0 : Int32) then (t_X5_at l3 mq0 aq0) else ((2 : Int32) * (t_X5_at l3 mq0 aq0))) - (9 : Int32))))), none, some (.int l3), none]) (show xleP _ [some (.ref h0), some (.int (l1 + (if (if l2 = (0 : Int32) then (t_X5_at l3 mq0 aq0) else ((2 : Int32) * (t_X5_at l3 mq0 aq0))) ≤ (9 : Int32) then (if l2 = (0 : Int32) then (t_X5_at l3 mq0 aq0) else ((2 : Int32) * (t_X5_at l3 mq0 aq0))) else ((if l2 = (0 : Int32) then (t_X5_at l3 mq0 aq0) else ((2 : Int32) * (t_X5_at l3 mq0 aq0))) - (9 : Int32))))), some (.int l2), some (.int l3), none] from ⟨rfl, ⟨rfl, ⟨rfl, trivial⟩⟩⟩) rfl ?_
          exact ev_cast (show ((65, [some (.ref h0), some (.int (l1 + (if (if l2 = (0 : Int32) then (t_X5_at l3 mq0 aq0) else ((2 : Int32) * (t_X5_at l3 mq0 aq0))) ≤ (9 : Int32) then (if l2 = (0 : Int32) then (t_X5_at l3 mq0 aq0) else ((2 : Int32) * (t_X5_at l3 mq0 aq0))) else ((if l2 = (0 : Int32) then (t_X5_at l3 mq0 aq0) else ((2 : Int32) * (t_X5_at l3 mq0 aq0))) - (9 : Int32))))), none, some (.int l3), none], [.int (0 : Int32)]) : xF) = (65, [some (.ref h0), some (.int (l1 + (if (if l2 = (0 : Int32) then (t_X5_at l3 mq0 aq0) else ((2 : Int32) * (t_X5_at l3 mq0 aq0))) ≤ (9 : Int32) then (if l2 = (0 : Int32) then (t_X5_at l3 mq0 aq0) else ((2 : Int32) * (t_X5_at l3 mq0 aq0))) else ((if l2 = (0 : Int32) then (t_X5_at l3 mq0 aq0) else ((2 : Int32) * (t_X5_at l3 mq0 aq0))) - (9 : Int32))))), none, some (.int l3), none], [.int (if ¬ l2 = (0 : Int32) then (0 : Int32) else (1 : Int32))]) by first | (simp only [if_pos b57]; done) | rfl) rfl K
        · skip
          refine ev_run 2 (F' := (65, [some (.ref h0), some (.int (l1 + (if (if l2 = (0 : Int32) then (t_X5_at l3 mq0 aq0) else ((2 : Int32) * (t_X5_at l3 mq0 aq0))) ≤ (9 : Int32) then (if l2 = (0 : Int32) then (t_X5_at l3 mq0 aq0) else ((2 : Int32) * (t_X5_at l3 mq0 aq0))) else ((if l2 = (0 : Int32) then (t_X5_at l3 mq0 aq0) else ((2 : Int32) * (t_X5_at l3 mq0 aq0))) - (9 : Int32))))), some (.int l2), some (.int l3), none], [.int (1 : Int32)])) rfl ?_
          refine ev_forget (L' := [some (.ref h0), some (.int (l1 + (if (if l2 = (0 : Int32) then (t_X5_at l3 mq0 aq0) else ((2 : Int32) * (t_X5_at l3 mq0 aq0))) ≤ (9 : Int32) then (if l2 = (0 : Int32) then (t_X5_at l3 mq0 aq0) else ((2 : Int32) * (t_X5_at l3 mq0 aq0))) else ((if l2 = (0 : Int32) then (t_X5_at l3 mq0 aq0) else ((2 : Int32) * (t_X5_at l3 mq0 aq0))) - (9 : Int32))))), none, some (.int l3), none]) (show xleP _ [some (.ref h0), some (.int (l1 + (if (if l2 = (0 : Int32) then (t_X5_at l3 mq0 aq0) else ((2 : Int32) * (t_X5_at l3 mq0 aq0))) ≤ (9 : Int32) then (if l2 = (0 : Int32) then (t_X5_at l3 mq0 aq0) else ((2 : Int32) * (t_X5_at l3 mq0 aq0))) else ((if l2 = (0 : Int32) then (t_X5_at l3 mq0 aq0) else ((2 : Int32) * (t_X5_at l3 mq0 aq0))) - (9 : Int32))))), some (.int l2), some (.int l3), none] from ⟨rfl, ⟨rfl, ⟨rfl, trivial⟩⟩⟩) rfl ?_
          exact ev_cast (show ((65, [some (.ref h0), some (.int (l1 + (if (if l2 = (0 : Int32) then (t_X5_at l3 mq0 aq0) else ((2 : Int32) * (t_X5_at l3 mq0 aq0))) ≤ (9 : Int32) then (if l2 = (0 : Int32) then (t_X5_at l3 mq0 aq0) else ((2 : Int32) * (t_X5_at l3 mq0 aq0))) else ((if l2 = (0 : Int32) then (t_X5_at l3 mq0 aq0) else ((2 : Int32) * (t_X5_at l3 mq0 aq0))) - (9 : Int32))))), none, some (.int l3), none], [.int (1 : Int32)]) : xF) = (65, [some (.ref h0), some (.int (l1 + (if (if l2 = (0 : Int32) then (t_X5_at l3 mq0 aq0) else ((2 : Int32) * (t_X5_at l3 mq0 aq0))) ≤ (9 : Int32) then (if l2 = (0 : Int32) then (t_X5_at l3 mq0 aq0) else ((2 : Int32) * (t_X5_at l3 mq0 aq0))) else ((if l2 = (0 : Int32) then (t_X5_at l3 mq0 aq0) else ((2 : Int32) * (t_X5_at l3 mq0 aq0))) - (9 : Int32))))), none, some (.int l3), none], [.int (if ¬ l2 = (0 : Int32) then (0 : Int32) else (1 : Int32))]) by first | (simp only [if_neg b57]; done) | rfl) rfl K
      refine go_step (fun _ => ev_run 3 (F' := (11, [some (.ref h0), some (.int (l1 + (if (if l2 = (0 : Int32) then (t_X5_at l3 mq0 aq0) else ((2 : Int32) * (t_X5_at l3 mq0 aq0))) ≤ (9 : Int32) then (if l2 = (0 : Int32) then (t_X5_at l3 mq0 aq0) else ((2 : Int32) * (t_X5_at l3 mq0 aq0))) else ((if l2 = (0 : Int32) then (t_X5_at l3 mq0 aq0) else ((2 : Int32) * (t_X5_at l3 mq0 aq0))) - (9 : Int32))))), some (.int (if ¬ l2 = (0 : Int32) then (0 : Int32) else (1 : Int32))), some (.int (l3 + (-1 : Int32))), none], [])) rfl) ?_
      exact ih (l1 + (if (if l2 = (0 : Int32) then (t_X5_at l3 mq0 aq0) else ((2 : Int32) * (t_X5_at l3 mq0 aq0))) ≤ (9 : Int32) then (if l2 = (0 : Int32) then (t_X5_at l3 mq0 aq0) else ((2 : Int32) * (t_X5_at l3 mq0 aq0))) else ((if l2 = (0 : Int32) then (t_X5_at l3 mq0 aq0) else ((2 : Int32) * (t_X5_at l3 mq0 aq0))) - (9 : Int32)))) (if ¬ l2 = (0 : Int32) then (0 : Int32) else (1 : Int32)) (l3 + (-1 : Int32)) _ h
theorem C_X6_checkByDoubling {S : Nat × (Nat → Int32)} {d : Nat} {H : List xE} {z : Bool × Nat × Nat} {h0 q0 : Nat} {ch0_1 : Int32} {mq0 : Nat} {aq0 : Nat → Int32} (u_h0 : H[h0]? = some (.inr (4, [.ref q0, .int ch0_1]))) (u_q0 : H[q0]? = some (.inl (0, mq0, .inl aq0))) (hm_q0 : mq0 < 2147483648) {x : Int32} (h : q_X6_checkByDoubling ch0_1 mq0 aq0 = some x) : Cm S (d + 1) 67 [.ref h0] (H, z) (.inr (some (.int x)), (H, z)) := by
  have G : Go S (d + 1) 67 (0, [some (.ref h0), none, none, none, none], []) (H, z) (fun _ _ => False) (fun r => r = (.inr (some (.int x)), (H, z))) := by
    unfold q_X6_checkByDoubling at h
    refine go_step (fun _ => ev_run 5 (F' := (5, [some (.ref h0), some (.int (0 : Int32)), some (.int (1 : Int32)), none, none], [.ref h0])) rfl) ?_
    refine go_step (F1 := (8, [some (.ref h0), some (.int (0 : Int32)), some (.int (1 : Int32)), none, none], [.int (t_X5_size ch0_1)])) (M1 := (H, z)) (fun _ => ev_callV (x := (.invokevirtual 51, 3, 53, 4, 594, .null)) (as := []) (rest := []) rfl rfl u_h0 (C_X5_size (S := S) (d := d) (z := z) u_h0) rfl) ?_
    refine go_step (fun _ => ev_run 3 (F' := (11, [some (.ref h0), some (.int (0 : Int32)), some (.int (1 : Int32)), some (.int ((t_X5_size ch0_1) - (1 : Int32))), none], [])) rfl) ?_
    obtain ⟨y1, hy1, h⟩ := okb h
    obtain ⟨_, _, hr2, rfl, rfl⟩ := go_nr (L_X6_checkByDoubling_L11 (S := S) (d := d) (z := z) u_h0 u_q0 hm_q0 10000 (0 : Int32) (1 : Int32) ((t_X5_size ch0_1) - (1 : Int32)) _ hy1)
    refine go_step hr2 ?_
    refine go_step (fun _ => ev_run 3 (F' := (77, [none, some (.int y1.1), none, none, none], [.int (10 : Int32), .int y1.1, .int (10 : Int32)])) rfl) ?_
    refine go_step (fun _ => ev_rem rfl (by decide)) ?_
    refine go_step (fun _ => ev_run 2 (F' := (81, [none, some (.int y1.1), none, none, none], [.int (10 : Int32), .int ((10 : Int32) - (y1.1 - y1.1 / (10 : Int32) * (10 : Int32)))])) rfl) ?_
    refine go_step (fun _ => ev_rem rfl (by decide)) ?_
    cases h
    exact Or.inr ⟨_, ev_ret rfl rfl rfl rfl, rfl⟩
  obtain ⟨_, hE, rfl⟩ := go_end G
  exact hE
def q_X6_checkByEleven_L4 (ch0_1 : Int32) (mq0 : Nat) (aq0 : Nat → Int32) : Nat → Int32 → Int32 → Option (Int32 × Int32)
  | 0, _, _ => none
  | n + 1, l1, l2 => (if (t_X5_size ch0_1) ≤ l2 then (some (l1, l2)) else (q_X6_checkByEleven_L4 ch0_1 mq0 aq0 n ((((2 : Int32) * l1) + ((2 : Int32) * (t_X5_at l2 mq0 aq0))) - (((2 : Int32) * l1) + ((2 : Int32) * (t_X5_at l2 mq0 aq0))) / (11 : Int32) * (11 : Int32)) (l2 + (1 : Int32))))
def q_X6_checkByEleven (ch0_1 : Int32) (mq0 : Nat) (aq0 : Nat → Int32) : Option Int32 := ((q_X6_checkByEleven_L4 ch0_1 mq0 aq0 10000 (0 : Int32) (0 : Int32)).bind (fun y1 => (some (((11 : Int32) - y1.1) - ((11 : Int32) - y1.1) / (11 : Int32) * (11 : Int32)))))
theorem L_X6_checkByEleven_L4 {S : Nat × (Nat → Int32)} {d : Nat} {z : Bool × Nat × Nat} {h0 q0 : Nat} {ch0_1 : Int32} {mq0 : Nat} {aq0 : Nat → Int32} {H : List xE} (u_h0 : H[h0]? = some (.inr (4, [.ref q0, .int ch0_1]))) (u_q0 : H[q0]? = some (.inl (0, mq0, .inl aq0))) (hm_q0 : mq0 < 2147483648) : ∀ (n : Nat) (l1 : Int32) (l2 : Int32) x, q_X6_checkByEleven_L4 ch0_1 mq0 aq0 n l1 l2 = some x → Go S (d + 1) 68 (4, [some (.ref h0), some (.int l1), some (.int l2)], []) (H, z) (fun F' M' =>  F' = (33, [none, some (.int x.1), none], []) ∧ M' = (H, z)) (fun _ => False) := by
  intro n
  induction n with
  | zero =>
    intro l1 l2 x h
    unfold q_X6_checkByEleven_L4 at h
    cases h
  | succ n ih =>
    intro l1 l2 x h
    unfold q_X6_checkByEleven_L4 at h
    refine go_step (fun _ => ev_run 2 (F' := (6, [some (.ref h0), some (.int l1), some (.int l2)], [.ref h0, .int l2])) rfl) ?_
    refine go_step (F1 := (9, [some (.ref h0), some (.int l1), some (.int l2)], [.int (t_X5_size ch0_1), .int l2])) (M1 := (H, z)) (fun _ => ev_callV (x := (.invokevirtual 51, 3, 53, 4, 594, .null)) (as := []) (rest := [.int l2]) rfl rfl u_h0 (C_X5_size (S := S) (d := d) (z := z) u_h0) rfl) ?_
    refine go_icmp rfl (fun (b9 : (t_X5_size ch0_1) ≤ l2) => ?_) (fun (b9 : ¬ ((t_X5_size ch0_1) ≤ l2)) => ?_)
    · have h := (if_pos b9).symm.trans h
      refine go_step (fun _ => ev_forget (L' := [none, some (.int l1), none]) (show xleP _ [some (.ref h0), some (.int l1), some (.int l2)] from ⟨rfl, trivial⟩) rfl) ?_
      cases h
      exact Or.inl ⟨_, _, fun r hr => hr, rfl, rfl⟩
    · have h := (if_neg b9).symm.trans h
      refine go_step (fun _ => ev_run 6 (F' := (18, [some (.ref h0), some (.int l1), some (.int l2)], [.int l2, .ref h0, .int (2 : Int32), .int ((2 : Int32) * l1)])) rfl) ?_
      refine go_step (F1 := (21, [some (.ref h0), some (.int l1), some (.int l2)], [.int (t_X5_at l2 mq0 aq0), .int (2 : Int32), .int ((2 : Int32) * l1)])) (M1 := (H, z)) (fun _ => ev_callV (x := (.invokevirtual 55, 3, 55, 4, 595, .null)) (as := [.int l2]) (rest := [.int (2 : Int32), .int ((2 : Int32) * l1)]) rfl rfl u_h0 (C_X5_at (S := S) (d := d) (z := z) (x1 := l2) u_h0 u_q0 hm_q0) rfl) ?_
      refine go_step (fun _ => ev_run 3 (F' := (25, [some (.ref h0), some (.int l1), some (.int l2)], [.int (11 : Int32), .int (((2 : Int32) * l1) + ((2 : Int32) * (t_X5_at l2 mq0 aq0)))])) rfl) ?_
      refine go_step (fun _ => ev_rem rfl (by decide)) ?_
      refine go_step (fun _ => ev_run 3 (F' := (4, [some (.ref h0), some (.int ((((2 : Int32) * l1) + ((2 : Int32) * (t_X5_at l2 mq0 aq0))) - (((2 : Int32) * l1) + ((2 : Int32) * (t_X5_at l2 mq0 aq0))) / (11 : Int32) * (11 : Int32))), some (.int (l2 + (1 : Int32)))], [])) rfl) ?_
      exact ih ((((2 : Int32) * l1) + ((2 : Int32) * (t_X5_at l2 mq0 aq0))) - (((2 : Int32) * l1) + ((2 : Int32) * (t_X5_at l2 mq0 aq0))) / (11 : Int32) * (11 : Int32)) (l2 + (1 : Int32)) _ h
theorem C_X6_checkByEleven {S : Nat × (Nat → Int32)} {d : Nat} {H : List xE} {z : Bool × Nat × Nat} {h0 q0 : Nat} {ch0_1 : Int32} {mq0 : Nat} {aq0 : Nat → Int32} (u_h0 : H[h0]? = some (.inr (4, [.ref q0, .int ch0_1]))) (u_q0 : H[q0]? = some (.inl (0, mq0, .inl aq0))) (hm_q0 : mq0 < 2147483648) {x : Int32} (h : q_X6_checkByEleven ch0_1 mq0 aq0 = some x) : Cm S (d + 1) 68 [.ref h0] (H, z) (.inr (some (.int x)), (H, z)) := by
  have G : Go S (d + 1) 68 (0, [some (.ref h0), none, none], []) (H, z) (fun _ _ => False) (fun r => r = (.inr (some (.int x)), (H, z))) := by
    unfold q_X6_checkByEleven at h
    refine go_step (fun _ => ev_run 4 (F' := (4, [some (.ref h0), some (.int (0 : Int32)), some (.int (0 : Int32))], [])) rfl) ?_
    obtain ⟨y1, hy1, h⟩ := okb h
    obtain ⟨_, _, hr2, rfl, rfl⟩ := go_nr (L_X6_checkByEleven_L4 (S := S) (d := d) (z := z) u_h0 u_q0 hm_q0 10000 (0 : Int32) (0 : Int32) _ hy1)
    refine go_step hr2 ?_
    refine go_step (fun _ => ev_run 4 (F' := (39, [none, some (.int y1.1), none], [.int (11 : Int32), .int ((11 : Int32) - y1.1)])) rfl) ?_
    refine go_step (fun _ => ev_rem rfl (by decide)) ?_
    cases h
    exact Or.inr ⟨_, ev_ret rfl rfl rfl rfl, rfl⟩
  obtain ⟨_, hE, rfl⟩ := go_end G
  exact hE
def q_X6_checkByNinetySeven_L4 (ch0_1 : Int32) (mq0 : Nat) (aq0 : Nat → Int32) : Nat → Int32 → Int32 → Option (Int32 × Int32)
  | 0, _, _ => none
  | n + 1, l1, l2 => (if (t_X5_size ch0_1) ≤ l2 then (some (l1, l2)) else (q_X6_checkByNinetySeven_L4 ch0_1 mq0 aq0 n ((((10 : Int32) * l1) + (t_X5_at l2 mq0 aq0)) - (((10 : Int32) * l1) + (t_X5_at l2 mq0 aq0)) / (97 : Int32) * (97 : Int32)) (l2 + (1 : Int32))))
def q_X6_checkByNinetySeven (ch0_1 : Int32) (mq0 : Nat) (aq0 : Nat → Int32) : Option Int32 := ((q_X6_checkByNinetySeven_L4 ch0_1 mq0 aq0 10000 (0 : Int32) (0 : Int32)).bind (fun y1 => (some ((98 : Int32) - (((100 : Int32) * y1.1) - ((100 : Int32) * y1.1) / (97 : Int32) * (97 : Int32))))))
theorem L_X6_checkByNinetySeven_L4 {S : Nat × (Nat → Int32)} {d : Nat} {z : Bool × Nat × Nat} {h0 q0 : Nat} {ch0_1 : Int32} {mq0 : Nat} {aq0 : Nat → Int32} {H : List xE} (u_h0 : H[h0]? = some (.inr (4, [.ref q0, .int ch0_1]))) (u_q0 : H[q0]? = some (.inl (0, mq0, .inl aq0))) (hm_q0 : mq0 < 2147483648) : ∀ (n : Nat) (l1 : Int32) (l2 : Int32) x, q_X6_checkByNinetySeven_L4 ch0_1 mq0 aq0 n l1 l2 = some x → Go S (d + 1) 69 (4, [some (.ref h0), some (.int l1), some (.int l2)], []) (H, z) (fun F' M' =>  F' = (32, [none, some (.int x.1), none], []) ∧ M' = (H, z)) (fun _ => False) := by
  intro n
  induction n with
  | zero =>
    intro l1 l2 x h
    unfold q_X6_checkByNinetySeven_L4 at h
    cases h
  | succ n ih =>
    intro l1 l2 x h
    unfold q_X6_checkByNinetySeven_L4 at h
    refine go_step (fun _ => ev_run 2 (F' := (6, [some (.ref h0), some (.int l1), some (.int l2)], [.ref h0, .int l2])) rfl) ?_
    refine go_step (F1 := (9, [some (.ref h0), some (.int l1), some (.int l2)], [.int (t_X5_size ch0_1), .int l2])) (M1 := (H, z)) (fun _ => ev_callV (x := (.invokevirtual 51, 3, 53, 4, 594, .null)) (as := []) (rest := [.int l2]) rfl rfl u_h0 (C_X5_size (S := S) (d := d) (z := z) u_h0) rfl) ?_
    refine go_icmp rfl (fun (b9 : (t_X5_size ch0_1) ≤ l2) => ?_) (fun (b9 : ¬ ((t_X5_size ch0_1) ≤ l2)) => ?_)
    · have h := (if_pos b9).symm.trans h
      refine go_step (fun _ => ev_forget (L' := [none, some (.int l1), none]) (show xleP _ [some (.ref h0), some (.int l1), some (.int l2)] from ⟨rfl, trivial⟩) rfl) ?_
      cases h
      exact Or.inl ⟨_, _, fun r hr => hr, rfl, rfl⟩
    · have h := (if_neg b9).symm.trans h
      refine go_step (fun _ => ev_run 5 (F' := (18, [some (.ref h0), some (.int l1), some (.int l2)], [.int l2, .ref h0, .int ((10 : Int32) * l1)])) rfl) ?_
      refine go_step (F1 := (21, [some (.ref h0), some (.int l1), some (.int l2)], [.int (t_X5_at l2 mq0 aq0), .int ((10 : Int32) * l1)])) (M1 := (H, z)) (fun _ => ev_callV (x := (.invokevirtual 55, 3, 55, 4, 595, .null)) (as := [.int l2]) (rest := [.int ((10 : Int32) * l1)]) rfl rfl u_h0 (C_X5_at (S := S) (d := d) (z := z) (x1 := l2) u_h0 u_q0 hm_q0) rfl) ?_
      refine go_step (fun _ => ev_run 2 (F' := (24, [some (.ref h0), some (.int l1), some (.int l2)], [.int (97 : Int32), .int (((10 : Int32) * l1) + (t_X5_at l2 mq0 aq0))])) rfl) ?_
      refine go_step (fun _ => ev_rem rfl (by decide)) ?_
      refine go_step (fun _ => ev_run 3 (F' := (4, [some (.ref h0), some (.int ((((10 : Int32) * l1) + (t_X5_at l2 mq0 aq0)) - (((10 : Int32) * l1) + (t_X5_at l2 mq0 aq0)) / (97 : Int32) * (97 : Int32))), some (.int (l2 + (1 : Int32)))], [])) rfl) ?_
      exact ih ((((10 : Int32) * l1) + (t_X5_at l2 mq0 aq0)) - (((10 : Int32) * l1) + (t_X5_at l2 mq0 aq0)) / (97 : Int32) * (97 : Int32)) (l2 + (1 : Int32)) _ h
theorem C_X6_checkByNinetySeven {S : Nat × (Nat → Int32)} {d : Nat} {H : List xE} {z : Bool × Nat × Nat} {h0 q0 : Nat} {ch0_1 : Int32} {mq0 : Nat} {aq0 : Nat → Int32} (u_h0 : H[h0]? = some (.inr (4, [.ref q0, .int ch0_1]))) (u_q0 : H[q0]? = some (.inl (0, mq0, .inl aq0))) (hm_q0 : mq0 < 2147483648) {x : Int32} (h : q_X6_checkByNinetySeven ch0_1 mq0 aq0 = some x) : Cm S (d + 1) 69 [.ref h0] (H, z) (.inr (some (.int x)), (H, z)) := by
  have G : Go S (d + 1) 69 (0, [some (.ref h0), none, none], []) (H, z) (fun _ _ => False) (fun r => r = (.inr (some (.int x)), (H, z))) := by
    unfold q_X6_checkByNinetySeven at h
    refine go_step (fun _ => ev_run 4 (F' := (4, [some (.ref h0), some (.int (0 : Int32)), some (.int (0 : Int32))], [])) rfl) ?_
    obtain ⟨y1, hy1, h⟩ := okb h
    obtain ⟨_, _, hr2, rfl, rfl⟩ := go_nr (L_X6_checkByNinetySeven_L4 (S := S) (d := d) (z := z) u_h0 u_q0 hm_q0 10000 (0 : Int32) (0 : Int32) _ hy1)
    refine go_step hr2 ?_
    refine go_step (fun _ => ev_run 5 (F' := (40, [none, some (.int y1.1), none], [.int (97 : Int32), .int ((100 : Int32) * y1.1), .int (98 : Int32)])) rfl) ?_
    refine go_step (fun _ => ev_rem rfl (by decide)) ?_
    refine go_step (fun _ => ev_run 1 (F' := (42, [none, some (.int y1.1), none], [.int ((98 : Int32) - (((100 : Int32) * y1.1) - ((100 : Int32) * y1.1) / (97 : Int32) * (97 : Int32)))])) rfl) ?_
    cases h
    exact Or.inr ⟨_, ev_ret rfl rfl rfl rfl, rfl⟩
  obtain ⟨_, hE, rfl⟩ := go_end G
  exact hE
def t_X6_productOf (x0 : Int32) (x1 : Int32) : Int32 := (if (5 : Int32) ≤ x0 then (if ¬ (if (5 : Int32) ≤ x0 then (0 : Int32) else (1 : Int32)) = (if (5 : Int32) ≤ x1 then (0 : Int32) else (1 : Int32)) then ((((x0 - x1) + (10 : Int32)) - ((x0 - x1) + (10 : Int32)) / (5 : Int32) * (5 : Int32)) + (5 : Int32)) else (((x0 - x1) + (10 : Int32)) - ((x0 - x1) + (10 : Int32)) / (5 : Int32) * (5 : Int32))) else (if ¬ (if (5 : Int32) ≤ x0 then (0 : Int32) else (1 : Int32)) = (if (5 : Int32) ≤ x1 then (0 : Int32) else (1 : Int32)) then (((x0 + x1) - (x0 + x1) / (5 : Int32) * (5 : Int32)) + (5 : Int32)) else ((x0 + x1) - (x0 + x1) / (5 : Int32) * (5 : Int32))))
theorem C_X6_productOf {S : Nat × (Nat → Int32)} {d : Nat} {H : List xE} {z : Bool × Nat × Nat} {x0 : Int32} {x1 : Int32} : Cm S d 71 [.int x0, .int x1] (H, z) (.inr (some (.int (t_X6_productOf x0 x1))), (H, z)) := by
  have G : ∀ x, t_X6_productOf x0 x1 = x → Go S d 71 (0, [some (.int x0), some (.int x1), none], []) (H, z) (fun _ _ => False) (fun r => r = (.inr (some (.int x)), (H, z))) := by
    intro x h
    unfold t_X6_productOf at h
    refine go_step (fun _ => ev_run 2 (F' := (2, [some (.int x0), some (.int x1), none], [.int (5 : Int32), .int x0])) rfl) ?_
    refine go_icmp rfl (fun (b2 : (5 : Int32) ≤ x0) => ?_) (fun (b2 : ¬ ((5 : Int32) ≤ x0)) => ?_)
    · have h := (if_pos b2).symm.trans h
      refine go_step (fun _ => ev_run 6 (F' := (20, [some (.int x0), some (.int x1), none], [.int (5 : Int32), .int ((x0 - x1) + (10 : Int32))])) rfl) ?_
      refine go_step (fun _ => ev_rem rfl (by decide)) ?_
      refine go_step (fun _ => ev_run 3 (F' := (24, [some (.int x0), some (.int x1), some (.int (((x0 - x1) + (10 : Int32)) - ((x0 - x1) + (10 : Int32)) / (5 : Int32) * (5 : Int32)))], [.int (5 : Int32), .int x0])) rfl) ?_
      refine go_step (F1 := (32, [none, some (.int x1), some (.int (((x0 - x1) + (10 : Int32)) - ((x0 - x1) + (10 : Int32)) / (5 : Int32) * (5 : Int32)))], [.int (if (5 : Int32) ≤ x0 then (0 : Int32) else (1 : Int32))])) (M1 := (H, z)) (fun r K => ?_) ?_
      · skip
        refine ev_icmp rfl (fun (b24 : (5 : Int32) ≤ x0) => ?_) (fun (b24 : ¬ ((5 : Int32) ≤ x0)) => ?_)
        · skip
          refine ev_run 1 (F' := (32, [some (.int x0), some (.int x1), some (.int (((x0 - x1) + (10 : Int32)) - ((x0 - x1) + (10 : Int32)) / (5 : Int32) * (5 : Int32)))], [.int (0 : Int32)])) rfl ?_
          refine ev_forget (L' := [none, some (.int x1), some (.int (((x0 - x1) + (10 : Int32)) - ((x0 - x1) + (10 : Int32)) / (5 : Int32) * (5 : Int32)))]) (show xleP _ [some (.int x0), some (.int x1), some (.int (((x0 - x1) + (10 : Int32)) - ((x0 - x1) + (10 : Int32)) / (5 : Int32) * (5 : Int32)))] from ⟨rfl, ⟨rfl, trivial⟩⟩) rfl ?_
          exact ev_cast (show ((32, [none, some (.int x1), some (.int (((x0 - x1) + (10 : Int32)) - ((x0 - x1) + (10 : Int32)) / (5 : Int32) * (5 : Int32)))], [.int (0 : Int32)]) : xF) = (32, [none, some (.int x1), some (.int (((x0 - x1) + (10 : Int32)) - ((x0 - x1) + (10 : Int32)) / (5 : Int32) * (5 : Int32)))], [.int (if (5 : Int32) ≤ x0 then (0 : Int32) else (1 : Int32))]) by first | (simp only [if_pos b24]; done) | rfl) rfl K
        · skip
          refine ev_run 2 (F' := (32, [some (.int x0), some (.int x1), some (.int (((x0 - x1) + (10 : Int32)) - ((x0 - x1) + (10 : Int32)) / (5 : Int32) * (5 : Int32)))], [.int (1 : Int32)])) rfl ?_
          refine ev_forget (L' := [none, some (.int x1), some (.int (((x0 - x1) + (10 : Int32)) - ((x0 - x1) + (10 : Int32)) / (5 : Int32) * (5 : Int32)))]) (show xleP _ [some (.int x0), some (.int x1), some (.int (((x0 - x1) + (10 : Int32)) - ((x0 - x1) + (10 : Int32)) / (5 : Int32) * (5 : Int32)))] from ⟨rfl, ⟨rfl, trivial⟩⟩) rfl ?_
          exact ev_cast (show ((32, [none, some (.int x1), some (.int (((x0 - x1) + (10 : Int32)) - ((x0 - x1) + (10 : Int32)) / (5 : Int32) * (5 : Int32)))], [.int (1 : Int32)]) : xF) = (32, [none, some (.int x1), some (.int (((x0 - x1) + (10 : Int32)) - ((x0 - x1) + (10 : Int32)) / (5 : Int32) * (5 : Int32)))], [.int (if (5 : Int32) ≤ x0 then (0 : Int32) else (1 : Int32))]) by first | (simp only [if_neg b24]; done) | rfl) rfl K
      refine go_step (fun _ => ev_run 2 (F' := (34, [none, some (.int x1), some (.int (((x0 - x1) + (10 : Int32)) - ((x0 - x1) + (10 : Int32)) / (5 : Int32) * (5 : Int32)))], [.int (5 : Int32), .int x1, .int (if (5 : Int32) ≤ x0 then (0 : Int32) else (1 : Int32))])) rfl) ?_
      refine go_step (F1 := (42, [none, none, some (.int (((x0 - x1) + (10 : Int32)) - ((x0 - x1) + (10 : Int32)) / (5 : Int32) * (5 : Int32)))], [.int (if (5 : Int32) ≤ x1 then (0 : Int32) else (1 : Int32)), .int (if (5 : Int32) ≤ x0 then (0 : Int32) else (1 : Int32))])) (M1 := (H, z)) (fun r K => ?_) ?_
      · skip
        refine ev_icmp rfl (fun (b34 : (5 : Int32) ≤ x1) => ?_) (fun (b34 : ¬ ((5 : Int32) ≤ x1)) => ?_)
        · skip
          refine ev_run 1 (F' := (42, [none, some (.int x1), some (.int (((x0 - x1) + (10 : Int32)) - ((x0 - x1) + (10 : Int32)) / (5 : Int32) * (5 : Int32)))], [.int (0 : Int32), .int (if (5 : Int32) ≤ x0 then (0 : Int32) else (1 : Int32))])) rfl ?_
          refine ev_forget (L' := [none, none, some (.int (((x0 - x1) + (10 : Int32)) - ((x0 - x1) + (10 : Int32)) / (5 : Int32) * (5 : Int32)))]) (show xleP _ [none, some (.int x1), some (.int (((x0 - x1) + (10 : Int32)) - ((x0 - x1) + (10 : Int32)) / (5 : Int32) * (5 : Int32)))] from ⟨rfl, trivial⟩) rfl ?_
          exact ev_cast (show ((42, [none, none, some (.int (((x0 - x1) + (10 : Int32)) - ((x0 - x1) + (10 : Int32)) / (5 : Int32) * (5 : Int32)))], [.int (0 : Int32), .int (if (5 : Int32) ≤ x0 then (0 : Int32) else (1 : Int32))]) : xF) = (42, [none, none, some (.int (((x0 - x1) + (10 : Int32)) - ((x0 - x1) + (10 : Int32)) / (5 : Int32) * (5 : Int32)))], [.int (if (5 : Int32) ≤ x1 then (0 : Int32) else (1 : Int32)), .int (if (5 : Int32) ≤ x0 then (0 : Int32) else (1 : Int32))]) by first | (simp only [if_pos b34]; done) | rfl) rfl K
        · skip
          refine ev_run 2 (F' := (42, [none, some (.int x1), some (.int (((x0 - x1) + (10 : Int32)) - ((x0 - x1) + (10 : Int32)) / (5 : Int32) * (5 : Int32)))], [.int (1 : Int32), .int (if (5 : Int32) ≤ x0 then (0 : Int32) else (1 : Int32))])) rfl ?_
          refine ev_forget (L' := [none, none, some (.int (((x0 - x1) + (10 : Int32)) - ((x0 - x1) + (10 : Int32)) / (5 : Int32) * (5 : Int32)))]) (show xleP _ [none, some (.int x1), some (.int (((x0 - x1) + (10 : Int32)) - ((x0 - x1) + (10 : Int32)) / (5 : Int32) * (5 : Int32)))] from ⟨rfl, trivial⟩) rfl ?_
          exact ev_cast (show ((42, [none, none, some (.int (((x0 - x1) + (10 : Int32)) - ((x0 - x1) + (10 : Int32)) / (5 : Int32) * (5 : Int32)))], [.int (1 : Int32), .int (if (5 : Int32) ≤ x0 then (0 : Int32) else (1 : Int32))]) : xF) = (42, [none, none, some (.int (((x0 - x1) + (10 : Int32)) - ((x0 - x1) + (10 : Int32)) / (5 : Int32) * (5 : Int32)))], [.int (if (5 : Int32) ≤ x1 then (0 : Int32) else (1 : Int32)), .int (if (5 : Int32) ≤ x0 then (0 : Int32) else (1 : Int32))]) by first | (simp only [if_neg b34]; done) | rfl) rfl K
      refine go_step (F1 := (52, [none, none, none], [.int (if ¬ (if (5 : Int32) ≤ x0 then (0 : Int32) else (1 : Int32)) = (if (5 : Int32) ≤ x1 then (0 : Int32) else (1 : Int32)) then ((((x0 - x1) + (10 : Int32)) - ((x0 - x1) + (10 : Int32)) / (5 : Int32) * (5 : Int32)) + (5 : Int32)) else (((x0 - x1) + (10 : Int32)) - ((x0 - x1) + (10 : Int32)) / (5 : Int32) * (5 : Int32)))])) (M1 := (H, z)) (fun r K => ?_) ?_
      · skip
        refine ev_icmp rfl (fun (b42 : ¬ (if (5 : Int32) ≤ x0 then (0 : Int32) else (1 : Int32)) = (if (5 : Int32) ≤ x1 then (0 : Int32) else (1 : Int32))) => ?_) (fun (b42 : ¬ (¬ (if (5 : Int32) ≤ x0 then (0 : Int32) else (1 : Int32)) = (if (5 : Int32) ≤ x1 then (0 : Int32) else (1 : Int32)))) => ?_)
        · skip
          refine ev_run 3 (F' := (52, [none, none, some (.int (((x0 - x1) + (10 : Int32)) - ((x0 - x1) + (10 : Int32)) / (5 : Int32) * (5 : Int32)))], [.int ((((x0 - x1) + (10 : Int32)) - ((x0 - x1) + (10 : Int32)) / (5 : Int32) * (5 : Int32)) + (5 : Int32))])) rfl ?_
          refine ev_forget (L' := [none, none, none]) (show xleP _ [none, none, some (.int (((x0 - x1) + (10 : Int32)) - ((x0 - x1) + (10 : Int32)) / (5 : Int32) * (5 : Int32)))] from trivial) rfl ?_
          exact ev_cast (show ((52, [none, none, none], [.int ((((x0 - x1) + (10 : Int32)) - ((x0 - x1) + (10 : Int32)) / (5 : Int32) * (5 : Int32)) + (5 : Int32))]) : xF) = (52, [none, none, none], [.int (if ¬ (if (5 : Int32) ≤ x0 then (0 : Int32) else (1 : Int32)) = (if (5 : Int32) ≤ x1 then (0 : Int32) else (1 : Int32)) then ((((x0 - x1) + (10 : Int32)) - ((x0 - x1) + (10 : Int32)) / (5 : Int32) * (5 : Int32)) + (5 : Int32)) else (((x0 - x1) + (10 : Int32)) - ((x0 - x1) + (10 : Int32)) / (5 : Int32) * (5 : Int32)))]) by first | (simp only [if_pos b42]; done) | rfl) rfl K
        · skip
          refine ev_run 2 (F' := (52, [none, none, some (.int (((x0 - x1) + (10 : Int32)) - ((x0 - x1) + (10 : Int32)) / (5 : Int32) * (5 : Int32)))], [.int (((x0 - x1) + (10 : Int32)) - ((x0 - x1) + (10 : Int32)) / (5 : Int32) * (5 : Int32))])) rfl ?_
          refine ev_forget (L' := [none, none, none]) (show xleP _ [none, none, some (.int (((x0 - x1) + (10 : Int32)) - ((x0 - x1) + (10 : Int32)) / (5 : Int32) * (5 : Int32)))] from trivial) rfl ?_
          exact ev_cast (show ((52, [none, none, none], [.int (((x0 - x1) + (10 : Int32)) - ((x0 - x1) + (10 : Int32)) / (5 : Int32) * (5 : Int32))]) : xF) = (52, [none, none, none], [.int (if ¬ (if (5 : Int32) ≤ x0 then (0 : Int32) else (1 : Int32)) = (if (5 : Int32) ≤ x1 then (0 : Int32) else (1 : Int32)) then ((((x0 - x1) + (10 : Int32)) - ((x0 - x1) + (10 : Int32)) / (5 : Int32) * (5 : Int32)) + (5 : Int32)) else (((x0 - x1) + (10 : Int32)) - ((x0 - x1) + (10 : Int32)) / (5 : Int32) * (5 : Int32)))]) by first | (simp only [if_neg b42]; done) | rfl) rfl K
      cases h
      exact Or.inr ⟨_, ev_ret rfl rfl rfl rfl, rfl⟩
    · have h := (if_neg b2).symm.trans h
      refine go_step (fun _ => ev_run 4 (F' := (9, [some (.int x0), some (.int x1), none], [.int (5 : Int32), .int (x0 + x1)])) rfl) ?_
      refine go_step (fun _ => ev_rem rfl (by decide)) ?_
      refine go_step (fun _ => ev_run 4 (F' := (24, [some (.int x0), some (.int x1), some (.int ((x0 + x1) - (x0 + x1) / (5 : Int32) * (5 : Int32)))], [.int (5 : Int32), .int x0])) rfl) ?_
      refine go_step (F1 := (32, [none, some (.int x1), some (.int ((x0 + x1) - (x0 + x1) / (5 : Int32) * (5 : Int32)))], [.int (if (5 : Int32) ≤ x0 then (0 : Int32) else (1 : Int32))])) (M1 := (H, z)) (fun r K => ?_) ?_
      · skip
        refine ev_icmp rfl (fun (b24 : (5 : Int32) ≤ x0) => ?_) (fun (b24 : ¬ ((5 : Int32) ≤ x0)) => ?_)
        · skip
          refine ev_run 1 (F' := (32, [some (.int x0), some (.int x1), some (.int ((x0 + x1) - (x0 + x1) / (5 : Int32) * (5 : Int32)))], [.int (0 : Int32)])) rfl ?_
          refine ev_forget (L' := [none, some (.int x1), some (.int ((x0 + x1) - (x0 + x1) / (5 : Int32) * (5 : Int32)))]) (show xleP _ [some (.int x0), some (.int x1), some (.int ((x0 + x1) - (x0 + x1) / (5 : Int32) * (5 : Int32)))] from ⟨rfl, ⟨rfl, trivial⟩⟩) rfl ?_
          exact ev_cast (show ((32, [none, some (.int x1), some (.int ((x0 + x1) - (x0 + x1) / (5 : Int32) * (5 : Int32)))], [.int (0 : Int32)]) : xF) = (32, [none, some (.int x1), some (.int ((x0 + x1) - (x0 + x1) / (5 : Int32) * (5 : Int32)))], [.int (if (5 : Int32) ≤ x0 then (0 : Int32) else (1 : Int32))]) by first | (simp only [if_pos b24]; done) | rfl) rfl K
        · skip
          refine ev_run 2 (F' := (32, [some (.int x0), some (.int x1), some (.int ((x0 + x1) - (x0 + x1) / (5 : Int32) * (5 : Int32)))], [.int (1 : Int32)])) rfl ?_
          refine ev_forget (L' := [none, some (.int x1), some (.int ((x0 + x1) - (x0 + x1) / (5 : Int32) * (5 : Int32)))]) (show xleP _ [some (.int x0), some (.int x1), some (.int ((x0 + x1) - (x0 + x1) / (5 : Int32) * (5 : Int32)))] from ⟨rfl, ⟨rfl, trivial⟩⟩) rfl ?_
          exact ev_cast (show ((32, [none, some (.int x1), some (.int ((x0 + x1) - (x0 + x1) / (5 : Int32) * (5 : Int32)))], [.int (1 : Int32)]) : xF) = (32, [none, some (.int x1), some (.int ((x0 + x1) - (x0 + x1) / (5 : Int32) * (5 : Int32)))], [.int (if (5 : Int32) ≤ x0 then (0 : Int32) else (1 : Int32))]) by first | (simp only [if_neg b24]; done) | rfl) rfl K
      refine go_step (fun _ => ev_run 2 (F' := (34, [none, some (.int x1), some (.int ((x0 + x1) - (x0 + x1) / (5 : Int32) * (5 : Int32)))], [.int (5 : Int32), .int x1, .int (if (5 : Int32) ≤ x0 then (0 : Int32) else (1 : Int32))])) rfl) ?_
      refine go_step (F1 := (42, [none, none, some (.int ((x0 + x1) - (x0 + x1) / (5 : Int32) * (5 : Int32)))], [.int (if (5 : Int32) ≤ x1 then (0 : Int32) else (1 : Int32)), .int (if (5 : Int32) ≤ x0 then (0 : Int32) else (1 : Int32))])) (M1 := (H, z)) (fun r K => ?_) ?_
      · skip
        refine ev_icmp rfl (fun (b34 : (5 : Int32) ≤ x1) => ?_) (fun (b34 : ¬ ((5 : Int32) ≤ x1)) => ?_)
        · skip
          refine ev_run 1 (F' := (42, [none, some (.int x1), some (.int ((x0 + x1) - (x0 + x1) / (5 : Int32) * (5 : Int32)))], [.int (0 : Int32), .int (if (5 : Int32) ≤ x0 then (0 : Int32) else (1 : Int32))])) rfl ?_
          refine ev_forget (L' := [none, none, some (.int ((x0 + x1) - (x0 + x1) / (5 : Int32) * (5 : Int32)))]) (show xleP _ [none, some (.int x1), some (.int ((x0 + x1) - (x0 + x1) / (5 : Int32) * (5 : Int32)))] from ⟨rfl, trivial⟩) rfl ?_
          exact ev_cast (show ((42, [none, none, some (.int ((x0 + x1) - (x0 + x1) / (5 : Int32) * (5 : Int32)))], [.int (0 : Int32), .int (if (5 : Int32) ≤ x0 then (0 : Int32) else (1 : Int32))]) : xF) = (42, [none, none, some (.int ((x0 + x1) - (x0 + x1) / (5 : Int32) * (5 : Int32)))], [.int (if (5 : Int32) ≤ x1 then (0 : Int32) else (1 : Int32)), .int (if (5 : Int32) ≤ x0 then (0 : Int32) else (1 : Int32))]) by first | (simp only [if_pos b34]; done) | rfl) rfl K
        · skip
          refine ev_run 2 (F' := (42, [none, some (.int x1), some (.int ((x0 + x1) - (x0 + x1) / (5 : Int32) * (5 : Int32)))], [.int (1 : Int32), .int (if (5 : Int32) ≤ x0 then (0 : Int32) else (1 : Int32))])) rfl ?_
          refine ev_forget (L' := [none, none, some (.int ((x0 + x1) - (x0 + x1) / (5 : Int32) * (5 : Int32)))]) (show xleP _ [none, some (.int x1), some (.int ((x0 + x1) - (x0 + x1) / (5 : Int32) * (5 : Int32)))] from ⟨rfl, trivial⟩) rfl ?_
          exact ev_cast (show ((42, [none, none, some (.int ((x0 + x1) - (x0 + x1) / (5 : Int32) * (5 : Int32)))], [.int (1 : Int32), .int (if (5 : Int32) ≤ x0 then (0 : Int32) else (1 : Int32))]) : xF) = (42, [none, none, some (.int ((x0 + x1) - (x0 + x1) / (5 : Int32) * (5 : Int32)))], [.int (if (5 : Int32) ≤ x1 then (0 : Int32) else (1 : Int32)), .int (if (5 : Int32) ≤ x0 then (0 : Int32) else (1 : Int32))]) by first | (simp only [if_neg b34]; done) | rfl) rfl K
      refine go_step (F1 := (52, [none, none, none], [.int (if ¬ (if (5 : Int32) ≤ x0 then (0 : Int32) else (1 : Int32)) = (if (5 : Int32) ≤ x1 then (0 : Int32) else (1 : Int32)) then (((x0 + x1) - (x0 + x1) / (5 : Int32) * (5 : Int32)) + (5 : Int32)) else ((x0 + x1) - (x0 + x1) / (5 : Int32) * (5 : Int32)))])) (M1 := (H, z)) (fun r K => ?_) ?_
      · skip
        refine ev_icmp rfl (fun (b42 : ¬ (if (5 : Int32) ≤ x0 then (0 : Int32) else (1 : Int32)) = (if (5 : Int32) ≤ x1 then (0 : Int32) else (1 : Int32))) => ?_) (fun (b42 : ¬ (¬ (if (5 : Int32) ≤ x0 then (0 : Int32) else (1 : Int32)) = (if (5 : Int32) ≤ x1 then (0 : Int32) else (1 : Int32)))) => ?_)
        · skip
          refine ev_run 3 (F' := (52, [none, none, some (.int ((x0 + x1) - (x0 + x1) / (5 : Int32) * (5 : Int32)))], [.int (((x0 + x1) - (x0 + x1) / (5 : Int32) * (5 : Int32)) + (5 : Int32))])) rfl ?_
          refine ev_forget (L' := [none, none, none]) (show xleP _ [none, none, some (.int ((x0 + x1) - (x0 + x1) / (5 : Int32) * (5 : Int32)))] from trivial) rfl ?_
          exact ev_cast (show ((52, [none, none, none], [.int (((x0 + x1) - (x0 + x1) / (5 : Int32) * (5 : Int32)) + (5 : Int32))]) : xF) = (52, [none, none, none], [.int (if ¬ (if (5 : Int32) ≤ x0 then (0 : Int32) else (1 : Int32)) = (if (5 : Int32) ≤ x1 then (0 : Int32) else (1 : Int32)) then (((x0 + x1) - (x0 + x1) / (5 : Int32) * (5 : Int32)) + (5 : Int32)) else ((x0 + x1) - (x0 + x1) / (5 : Int32) * (5 : Int32)))]) by first | (simp only [if_pos b42]; done) | rfl) rfl K
        · skip
          refine ev_run 2 (F' := (52, [none, none, some (.int ((x0 + x1) - (x0 + x1) / (5 : Int32) * (5 : Int32)))], [.int ((x0 + x1) - (x0 + x1) / (5 : Int32) * (5 : Int32))])) rfl ?_
          refine ev_forget (L' := [none, none, none]) (show xleP _ [none, none, some (.int ((x0 + x1) - (x0 + x1) / (5 : Int32) * (5 : Int32)))] from trivial) rfl ?_
          exact ev_cast (show ((52, [none, none, none], [.int ((x0 + x1) - (x0 + x1) / (5 : Int32) * (5 : Int32))]) : xF) = (52, [none, none, none], [.int (if ¬ (if (5 : Int32) ≤ x0 then (0 : Int32) else (1 : Int32)) = (if (5 : Int32) ≤ x1 then (0 : Int32) else (1 : Int32)) then (((x0 + x1) - (x0 + x1) / (5 : Int32) * (5 : Int32)) + (5 : Int32)) else ((x0 + x1) - (x0 + x1) / (5 : Int32) * (5 : Int32)))]) by first | (simp only [if_neg b42]; done) | rfl) rfl K
      cases h
      exact Or.inr ⟨_, ev_ret rfl rfl rfl rfl, rfl⟩
  obtain ⟨_, hE, rfl⟩ := go_end (G _ rfl)
  exact hE
def q_X6_checkByTen_L9 (ch1_1 : Int32) (mq1 : Nat) (aq1 : Nat → Int32) (a22 : Nat → Int32) : Nat → Int32 → Int32 → Option (Int32 × Int32)
  | 0, _, _ => none
  | n + 1, l2, l3 => (if l3 < (0 : Int32) then (some (l2, l3)) else (if (((10 : Int32) * ((t_X5_size ch1_1) - l3)) + (t_X5_at l3 mq1 aq1)) < (0 : Int32) then (q_X6_checkByTen_L9 ch1_1 mq1 aq1 a22 n (t_X6_productOf l2 (0 : Int32)) (l3 + (-1 : Int32))) else (if (nI 190) ≤ (((10 : Int32) * ((t_X5_size ch1_1) - l3)) + (t_X5_at l3 mq1 aq1)) then (q_X6_checkByTen_L9 ch1_1 mq1 aq1 a22 n (t_X6_productOf l2 (0 : Int32)) (l3 + (-1 : Int32))) else (q_X6_checkByTen_L9 ch1_1 mq1 aq1 a22 n (t_X6_productOf l2 (a22 (((10 : Int32) * ((t_X5_size ch1_1) - l3)) + (t_X5_at l3 mq1 aq1)).toNatClampNeg)) (l3 + (-1 : Int32))))))
def q_X6_checkByTen_L69 (x2 : Int32) : Nat → Int32 → Option (Int32 ⊕ Int32)
  | 0, _ => none
  | n + 1, l3 => (if (9 : Int32) < l3 then (some (Sum.inl l3)) else (if ¬ (t_X6_productOf x2 l3) = (0 : Int32) then (q_X6_checkByTen_L69 x2 n (l3 + (1 : Int32))) else (some (Sum.inr l3))))
def q_X6_checkByTen (ch1_1 : Int32) (mq1 : Nat) (aq1 : Nat → Int32) (a22 : Nat → Int32) : Option Int32 := ((q_X6_checkByTen_L9 ch1_1 mq1 aq1 a22 10000 (0 : Int32) ((t_X5_size ch1_1) - (1 : Int32))).bind (fun y1 => (xlp (q_X6_checkByTen_L69 y1.1 10000 (0 : Int32)) (fun y3 => (some (0 : Int32))) (fun y3 => (some y3)))))
theorem L_X6_checkByTen_L9 {S : Nat × (Nat → Int32)} {d : Nat} {z : Bool × Nat × Nat} {h1 q1 : Nat} {ch1_1 : Int32} {mq1 : Nat} {aq1 : Nat → Int32} {a22 : Nat → Int32} {H : List xE} (u_h1 : H[h1]? = some (.inr (4, [.ref q1, .int ch1_1]))) (u_q1 : H[q1]? = some (.inl (0, mq1, .inl aq1))) (u_19 : H[19]? = some (.inr (5, [.ref 20, .ref 22]))) (u_22 : H[22]? = some (.inl (0, 190, .inl a22))) (hm_q1 : mq1 < 2147483648) : ∀ (n : Nat) (l2 : Int32) (l3 : Int32) x, q_X6_checkByTen_L9 ch1_1 mq1 aq1 a22 n l2 l3 = some x → Go S (d + 1) 70 (9, [some (.ref 19), some (.ref h1), some (.int l2), some (.int l3), none], []) (H, z) (fun F' M' =>  F' = (67, [none, none, some (.int x.1), none, none], []) ∧ M' = (H, z)) (fun _ => False) := by
  intro n
  induction n with
  | zero =>
    intro l2 l3 x h
    unfold q_X6_checkByTen_L9 at h
    cases h
  | succ n ih =>
    intro l2 l3 x h
    unfold q_X6_checkByTen_L9 at h
    refine go_step (fun _ => ev_run 1 (F' := (10, [some (.ref 19), some (.ref h1), some (.int l2), some (.int l3), none], [.int l3])) rfl) ?_
    refine go_if rfl (fun (b10 : l3 < (0 : Int32)) => ?_) (fun (b10 : ¬ (l3 < (0 : Int32))) => ?_)
    · have h := (if_pos b10).symm.trans h
      refine go_step (fun _ => ev_forget (L' := [none, none, some (.int l2), none, none]) (show xleP _ [some (.ref 19), some (.ref h1), some (.int l2), some (.int l3), none] from ⟨rfl, trivial⟩) rfl) ?_
      cases h
      exact Or.inl ⟨_, _, fun r hr => hr, rfl, rfl⟩
    · have h := (if_neg b10).symm.trans h
      refine go_step (fun _ => ev_run 2 (F' := (16, [some (.ref 19), some (.ref h1), some (.int l2), some (.int l3), none], [.ref h1, .int (10 : Int32)])) rfl) ?_
      refine go_step (F1 := (19, [some (.ref 19), some (.ref h1), some (.int l2), some (.int l3), none], [.int (t_X5_size ch1_1), .int (10 : Int32)])) (M1 := (H, z)) (fun _ => ev_callV (x := (.invokevirtual 51, 3, 53, 4, 594, .null)) (as := []) (rest := [.int (10 : Int32)]) rfl rfl u_h1 (C_X5_size (S := S) (d := d) (z := z) u_h1) rfl) ?_
      refine go_step (fun _ => ev_run 5 (F' := (24, [some (.ref 19), some (.ref h1), some (.int l2), some (.int l3), none], [.int l3, .ref h1, .int ((10 : Int32) * ((t_X5_size ch1_1) - l3))])) rfl) ?_
      refine go_step (F1 := (27, [some (.ref 19), some (.ref h1), some (.int l2), some (.int l3), none], [.int (t_X5_at l3 mq1 aq1), .int ((10 : Int32) * ((t_X5_size ch1_1) - l3))])) (M1 := (H, z)) (fun _ => ev_callV (x := (.invokevirtual 55, 3, 55, 4, 595, .null)) (as := [.int l3]) (rest := [.int ((10 : Int32) * ((t_X5_size ch1_1) - l3))]) rfl rfl u_h1 (C_X5_at (S := S) (d := d) (z := z) (x1 := l3) u_h1 u_q1 hm_q1) rfl) ?_
      refine go_step (fun _ => ev_run 4 (F' := (33, [some (.ref 19), some (.ref h1), some (.int l2), some (.int l3), some (.int (((10 : Int32) * ((t_X5_size ch1_1) - l3)) + (t_X5_at l3 mq1 aq1)))], [.int (((10 : Int32) * ((t_X5_size ch1_1) - l3)) + (t_X5_at l3 mq1 aq1)), .int l2])) rfl) ?_
      refine go_if rfl (fun (b33 : (((10 : Int32) * ((t_X5_size ch1_1) - l3)) + (t_X5_at l3 mq1 aq1)) < (0 : Int32)) => ?_) (fun (b33 : ¬ ((((10 : Int32) * ((t_X5_size ch1_1) - l3)) + (t_X5_at l3 mq1 aq1)) < (0 : Int32))) => ?_)
      · have h := (if_pos b33).symm.trans h
        refine go_step (fun _ => ev_run 1 (F' := (57, [some (.ref 19), some (.ref h1), some (.int l2), some (.int l3), some (.int (((10 : Int32) * ((t_X5_size ch1_1) - l3)) + (t_X5_at l3 mq1 aq1)))], [.int (0 : Int32), .int l2])) rfl) ?_
        refine go_step (F1 := (60, [some (.ref 19), some (.ref h1), some (.int l2), some (.int l3), some (.int (((10 : Int32) * ((t_X5_size ch1_1) - l3)) + (t_X5_at l3 mq1 aq1)))], [.int (t_X6_productOf l2 (0 : Int32))])) (M1 := (H, z)) (fun _ => ev_call (x := (.invokestatic 67, 3, 71, 5, 606, .null)) (as := [.int l2, .int (0 : Int32)]) (rest := []) rfl rfl (C_X6_productOf (S := S) (d := d) (z := z) (x0 := l2) (x1 := (0 : Int32))) rfl) ?_
        refine go_step (fun _ => ev_run 3 (F' := (9, [some (.ref 19), some (.ref h1), some (.int (t_X6_productOf l2 (0 : Int32))), some (.int (l3 + (-1 : Int32))), some (.int (((10 : Int32) * ((t_X5_size ch1_1) - l3)) + (t_X5_at l3 mq1 aq1)))], [])) rfl) ?_
        refine go_step (fun _ => ev_forget (L' := [some (.ref 19), some (.ref h1), some (.int (t_X6_productOf l2 (0 : Int32))), some (.int (l3 + (-1 : Int32))), none]) (show xleP _ [some (.ref 19), some (.ref h1), some (.int (t_X6_productOf l2 (0 : Int32))), some (.int (l3 + (-1 : Int32))), some (.int (((10 : Int32) * ((t_X5_size ch1_1) - l3)) + (t_X5_at l3 mq1 aq1)))] from ⟨rfl, ⟨rfl, ⟨rfl, ⟨rfl, trivial⟩⟩⟩⟩) rfl) ?_
        exact ih (t_X6_productOf l2 (0 : Int32)) (l3 + (-1 : Int32)) _ h
      · have h := (if_neg b33).symm.trans h
        refine go_step (fun _ => ev_run 2 (F' := (39, [some (.ref 19), some (.ref h1), some (.int l2), some (.int l3), some (.int (((10 : Int32) * ((t_X5_size ch1_1) - l3)) + (t_X5_at l3 mq1 aq1)))], [.ref 19, .int (((10 : Int32) * ((t_X5_size ch1_1) - l3)) + (t_X5_at l3 mq1 aq1)), .int l2])) rfl) ?_
        refine go_step (fun _ => ev_getf rfl u_19 rfl) ?_
        refine go_step (fun _ => ev_alen rfl u_22 rfl) ?_
        refine go_icmp rfl (fun (b43 : (nI 190) ≤ (((10 : Int32) * ((t_X5_size ch1_1) - l3)) + (t_X5_at l3 mq1 aq1))) => ?_) (fun (b43 : ¬ ((nI 190) ≤ (((10 : Int32) * ((t_X5_size ch1_1) - l3)) + (t_X5_at l3 mq1 aq1)))) => ?_)
        · have h := (if_pos b43).symm.trans h
          refine go_step (fun _ => ev_run 1 (F' := (57, [some (.ref 19), some (.ref h1), some (.int l2), some (.int l3), some (.int (((10 : Int32) * ((t_X5_size ch1_1) - l3)) + (t_X5_at l3 mq1 aq1)))], [.int (0 : Int32), .int l2])) rfl) ?_
          refine go_step (F1 := (60, [some (.ref 19), some (.ref h1), some (.int l2), some (.int l3), some (.int (((10 : Int32) * ((t_X5_size ch1_1) - l3)) + (t_X5_at l3 mq1 aq1)))], [.int (t_X6_productOf l2 (0 : Int32))])) (M1 := (H, z)) (fun _ => ev_call (x := (.invokestatic 67, 3, 71, 5, 606, .null)) (as := [.int l2, .int (0 : Int32)]) (rest := []) rfl rfl (C_X6_productOf (S := S) (d := d) (z := z) (x0 := l2) (x1 := (0 : Int32))) rfl) ?_
          refine go_step (fun _ => ev_run 3 (F' := (9, [some (.ref 19), some (.ref h1), some (.int (t_X6_productOf l2 (0 : Int32))), some (.int (l3 + (-1 : Int32))), some (.int (((10 : Int32) * ((t_X5_size ch1_1) - l3)) + (t_X5_at l3 mq1 aq1)))], [])) rfl) ?_
          refine go_step (fun _ => ev_forget (L' := [some (.ref 19), some (.ref h1), some (.int (t_X6_productOf l2 (0 : Int32))), some (.int (l3 + (-1 : Int32))), none]) (show xleP _ [some (.ref 19), some (.ref h1), some (.int (t_X6_productOf l2 (0 : Int32))), some (.int (l3 + (-1 : Int32))), some (.int (((10 : Int32) * ((t_X5_size ch1_1) - l3)) + (t_X5_at l3 mq1 aq1)))] from ⟨rfl, ⟨rfl, ⟨rfl, ⟨rfl, trivial⟩⟩⟩⟩) rfl) ?_
          exact ih (t_X6_productOf l2 (0 : Int32)) (l3 + (-1 : Int32)) _ h
        · have h := (if_neg b43).symm.trans h
          refine go_step (fun _ => ev_run 1 (F' := (47, [some (.ref 19), some (.ref h1), some (.int l2), some (.int l3), some (.int (((10 : Int32) * ((t_X5_size ch1_1) - l3)) + (t_X5_at l3 mq1 aq1)))], [.ref 19, .int l2])) rfl) ?_
          refine go_step (fun _ => ev_getf rfl u_19 rfl) ?_
          refine go_step (fun _ => ev_run 1 (F' := (52, [some (.ref 19), some (.ref h1), some (.int l2), some (.int l3), some (.int (((10 : Int32) * ((t_X5_size ch1_1) - l3)) + (t_X5_at l3 mq1 aq1)))], [.int (((10 : Int32) * ((t_X5_size ch1_1) - l3)) + (t_X5_at l3 mq1 aq1)), .ref 22, .int l2])) rfl) ?_
          refine go_step (fun _ => ev_iald rfl u_22 (xin_of (by decide) b33 b43)) ?_
          refine go_step (fun _ => ev_run 1 (F' := (57, [some (.ref 19), some (.ref h1), some (.int l2), some (.int l3), some (.int (((10 : Int32) * ((t_X5_size ch1_1) - l3)) + (t_X5_at l3 mq1 aq1)))], [.int (a22 (((10 : Int32) * ((t_X5_size ch1_1) - l3)) + (t_X5_at l3 mq1 aq1)).toNatClampNeg), .int l2])) rfl) ?_
          refine go_step (F1 := (60, [some (.ref 19), some (.ref h1), some (.int l2), some (.int l3), some (.int (((10 : Int32) * ((t_X5_size ch1_1) - l3)) + (t_X5_at l3 mq1 aq1)))], [.int (t_X6_productOf l2 (a22 (((10 : Int32) * ((t_X5_size ch1_1) - l3)) + (t_X5_at l3 mq1 aq1)).toNatClampNeg))])) (M1 := (H, z)) (fun _ => ev_call (x := (.invokestatic 67, 3, 71, 5, 606, .null)) (as := [.int l2, .int (a22 (((10 : Int32) * ((t_X5_size ch1_1) - l3)) + (t_X5_at l3 mq1 aq1)).toNatClampNeg)]) (rest := []) rfl rfl (C_X6_productOf (S := S) (d := d) (z := z) (x0 := l2) (x1 := (a22 (((10 : Int32) * ((t_X5_size ch1_1) - l3)) + (t_X5_at l3 mq1 aq1)).toNatClampNeg))) rfl) ?_
          refine go_step (fun _ => ev_run 3 (F' := (9, [some (.ref 19), some (.ref h1), some (.int (t_X6_productOf l2 (a22 (((10 : Int32) * ((t_X5_size ch1_1) - l3)) + (t_X5_at l3 mq1 aq1)).toNatClampNeg))), some (.int (l3 + (-1 : Int32))), some (.int (((10 : Int32) * ((t_X5_size ch1_1) - l3)) + (t_X5_at l3 mq1 aq1)))], [])) rfl) ?_
          refine go_step (fun _ => ev_forget (L' := [some (.ref 19), some (.ref h1), some (.int (t_X6_productOf l2 (a22 (((10 : Int32) * ((t_X5_size ch1_1) - l3)) + (t_X5_at l3 mq1 aq1)).toNatClampNeg))), some (.int (l3 + (-1 : Int32))), none]) (show xleP _ [some (.ref 19), some (.ref h1), some (.int (t_X6_productOf l2 (a22 (((10 : Int32) * ((t_X5_size ch1_1) - l3)) + (t_X5_at l3 mq1 aq1)).toNatClampNeg))), some (.int (l3 + (-1 : Int32))), some (.int (((10 : Int32) * ((t_X5_size ch1_1) - l3)) + (t_X5_at l3 mq1 aq1)))] from ⟨rfl, ⟨rfl, ⟨rfl, ⟨rfl, trivial⟩⟩⟩⟩) rfl) ?_
          exact ih (t_X6_productOf l2 (a22 (((10 : Int32) * ((t_X5_size ch1_1) - l3)) + (t_X5_at l3 mq1 aq1)).toNatClampNeg)) (l3 + (-1 : Int32)) _ h
theorem L_X6_checkByTen_L69 {S : Nat × (Nat → Int32)} {d : Nat} {z : Bool × Nat × Nat} {h1 q1 : Nat} {ch1_1 : Int32} {mq1 : Nat} {aq1 : Nat → Int32} {a22 : Nat → Int32} {x2 : Int32} {H : List xE} (u_h1 : H[h1]? = some (.inr (4, [.ref q1, .int ch1_1]))) (u_q1 : H[q1]? = some (.inl (0, mq1, .inl aq1))) (u_19 : H[19]? = some (.inr (5, [.ref 20, .ref 22]))) (u_22 : H[22]? = some (.inl (0, 190, .inl a22))) (hm_q1 : mq1 < 2147483648) : ∀ (n : Nat) (l3 : Int32) x, q_X6_checkByTen_L69 x2 n l3 = some x → Go S (d + 1) 70 (69, [none, none, some (.int x2), some (.int l3), none], []) (H, z) (fun F' M' => ∃ (m : Int32), x = Sum.inl m ∧ F' = (91, [none, none, none, none, none], []) ∧ M' = (H, z)) (fun r => ∃ (c : Int32), x = Sum.inr c ∧ r = (.inr (some (.int c)), (H, z))) := by
  intro n
  induction n with
  | zero =>
    intro l3 x h
    unfold q_X6_checkByTen_L69 at h
    cases h
  | succ n ih =>
    intro l3 x h
    unfold q_X6_checkByTen_L69 at h
    refine go_step (fun _ => ev_run 2 (F' := (72, [none, none, some (.int x2), some (.int l3), none], [.int (9 : Int32), .int l3])) rfl) ?_
    refine go_icmp rfl (fun (b72 : (9 : Int32) < l3) => ?_) (fun (b72 : ¬ ((9 : Int32) < l3)) => ?_)
    · have h := (if_pos b72).symm.trans h
      refine go_step (fun _ => ev_forget (L' := [none, none, none, none, none]) (show xleP _ [none, none, some (.int x2), some (.int l3), none] from trivial) rfl) ?_
      cases h
      exact Or.inl ⟨_, _, fun r hr => hr, _, rfl, rfl, rfl⟩
    · have h := (if_neg b72).symm.trans h
      refine go_step (fun _ => ev_run 2 (F' := (77, [none, none, some (.int x2), some (.int l3), none], [.int l3, .int x2])) rfl) ?_
      refine go_step (F1 := (80, [none, none, some (.int x2), some (.int l3), none], [.int (t_X6_productOf x2 l3)])) (M1 := (H, z)) (fun _ => ev_call (x := (.invokestatic 67, 3, 71, 5, 606, .null)) (as := [.int x2, .int l3]) (rest := []) rfl rfl (C_X6_productOf (S := S) (d := d) (z := z) (x0 := x2) (x1 := l3)) rfl) ?_
      refine go_if rfl (fun (b80 : ¬ (t_X6_productOf x2 l3) = (0 : Int32)) => ?_) (fun (b80 : ¬ (¬ (t_X6_productOf x2 l3) = (0 : Int32))) => ?_)
      · have h := (if_pos b80).symm.trans h
        refine go_step (fun _ => ev_run 2 (F' := (69, [none, none, some (.int x2), some (.int (l3 + (1 : Int32))), none], [])) rfl) ?_
        exact ih (l3 + (1 : Int32)) _ h
      · have h := (if_neg b80).symm.trans h
        refine go_step (fun _ => ev_run 1 (F' := (84, [none, none, some (.int x2), some (.int l3), none], [.int l3])) rfl) ?_
        cases h
        exact Or.inr ⟨_, ev_ret rfl rfl rfl rfl, _, rfl, rfl⟩
theorem C_X6_checkByTen {S : Nat × (Nat → Int32)} {d : Nat} {H : List xE} {z : Bool × Nat × Nat} {h1 q1 : Nat} {ch1_1 : Int32} {mq1 : Nat} {aq1 : Nat → Int32} {a22 : Nat → Int32} (u_h1 : H[h1]? = some (.inr (4, [.ref q1, .int ch1_1]))) (u_q1 : H[q1]? = some (.inl (0, mq1, .inl aq1))) (u_19 : H[19]? = some (.inr (5, [.ref 20, .ref 22]))) (u_22 : H[22]? = some (.inl (0, 190, .inl a22))) (hm_q1 : mq1 < 2147483648) {x : Int32} (h : q_X6_checkByTen ch1_1 mq1 aq1 a22 = some x) : Cm S (d + 1) 70 [.ref 19, .ref h1] (H, z) (.inr (some (.int x)), (H, z)) := by
  have G : Go S (d + 1) 70 (0, [some (.ref 19), some (.ref h1), none, none, none], []) (H, z) (fun _ _ => False) (fun r => r = (.inr (some (.int x)), (H, z))) := by
    unfold q_X6_checkByTen at h
    refine go_step (fun _ => ev_run 3 (F' := (3, [some (.ref 19), some (.ref h1), some (.int (0 : Int32)), none, none], [.ref h1])) rfl) ?_
    refine go_step (F1 := (6, [some (.ref 19), some (.ref h1), some (.int (0 : Int32)), none, none], [.int (t_X5_size ch1_1)])) (M1 := (H, z)) (fun _ => ev_callV (x := (.invokevirtual 51, 3, 53, 4, 594, .null)) (as := []) (rest := []) rfl rfl u_h1 (C_X5_size (S := S) (d := d) (z := z) u_h1) rfl) ?_
    refine go_step (fun _ => ev_run 3 (F' := (9, [some (.ref 19), some (.ref h1), some (.int (0 : Int32)), some (.int ((t_X5_size ch1_1) - (1 : Int32))), none], [])) rfl) ?_
    obtain ⟨y1, hy1, h⟩ := okb h
    obtain ⟨_, _, hr2, rfl, rfl⟩ := go_nr (L_X6_checkByTen_L9 (S := S) (d := d) (z := z) u_h1 u_q1 u_19 u_22 hm_q1 10000 (0 : Int32) ((t_X5_size ch1_1) - (1 : Int32)) _ hy1)
    refine go_step hr2 ?_
    refine go_step (fun _ => ev_run 2 (F' := (69, [none, none, some (.int y1.1), some (.int (0 : Int32)), none], [])) rfl) ?_
    rcases okl h with ⟨y3, hy3, h⟩ | ⟨y3, hy3, h⟩
    · rcases L_X6_checkByTen_L69 (S := S) (d := d) (z := z) (x2 := y1.1) u_h1 u_q1 u_19 u_22 hm_q1 10000 (0 : Int32) _ hy3 with ⟨_, _, hr4, _, hx5, rfl, rfl⟩ | ⟨_, _, _, hx5, _⟩
      · cases hx5
        refine go_step hr4 ?_
        refine go_step (fun _ => ev_run 1 (F' := (92, [none, none, none, none, none], [.int (0 : Int32)])) rfl) ?_
        cases h
        exact Or.inr ⟨_, ev_ret rfl rfl rfl rfl, rfl⟩
      · cases hx5
    · rcases L_X6_checkByTen_L69 (S := S) (d := d) (z := z) (x2 := y1.1) u_h1 u_q1 u_19 u_22 hm_q1 10000 (0 : Int32) _ hy3 with ⟨_, _, _, _, hx5, _⟩ | ⟨_, hE7, _, hx5, rfl⟩
      · cases hx5
      · cases hx5
        cases h
        exact Or.inr ⟨_, hE7, rfl⟩
  obtain ⟨_, hE, rfl⟩ := go_end G
  exact hE
def q_X6_checkOf (x1 : Int32) (ch2_1 : Int32) (mq2 : Nat) (aq2 : Nat → Int32) (a22 : Nat → Int32) : Option Int32 := (if ¬ x1 = (108 : Int32) then (if ¬ x1 = (101 : Int32) then (if ¬ x1 = (110 : Int32) then ((q_X6_checkByTen ch2_1 mq2 aq2 a22).bind (fun y1 => (some y1))) else ((q_X6_checkByNinetySeven ch2_1 mq2 aq2).bind (fun y2 => (some y2)))) else ((q_X6_checkByEleven ch2_1 mq2 aq2).bind (fun y3 => (some y3)))) else ((q_X6_checkByDoubling ch2_1 mq2 aq2).bind (fun y4 => (some y4))))
theorem C_X6_checkOf {S : Nat × (Nat → Int32)} {d : Nat} {H : List xE} {z : Bool × Nat × Nat} {h2 q2 : Nat} {ch2_1 : Int32} {mq2 : Nat} {aq2 : Nat → Int32} {a22 : Nat → Int32} {x1 : Int32} (u_h2 : H[h2]? = some (.inr (4, [.ref q2, .int ch2_1]))) (u_q2 : H[q2]? = some (.inl (0, mq2, .inl aq2))) (u_22 : H[22]? = some (.inl (0, 190, .inl a22))) (u_19 : H[19]? = some (.inr (5, [.ref 20, .ref 22]))) (hm_q2 : mq2 < 2147483648) {x : Int32} (h : q_X6_checkOf x1 ch2_1 mq2 aq2 a22 = some x) : Cm S (d + 2) 63 [.ref 19, .int x1, .ref h2] (H, z) (.inr (some (.int x)), (H, z)) := by
  have G : Go S (d + 2) 63 (0, [some (.ref 19), some (.int x1), some (.ref h2)], []) (H, z) (fun _ _ => False) (fun r => r = (.inr (some (.int x)), (H, z))) := by
    unfold q_X6_checkOf at h
    refine go_step (fun _ => ev_run 2 (F' := (3, [some (.ref 19), some (.int x1), some (.ref h2)], [.int (108 : Int32), .int x1])) rfl) ?_
    refine go_icmp rfl (fun (b3 : ¬ x1 = (108 : Int32)) => ?_) (fun (b3 : ¬ (¬ x1 = (108 : Int32))) => ?_)
    · have h := (if_pos b3).symm.trans h
      refine go_step (fun _ => ev_run 2 (F' := (14, [some (.ref 19), some (.int x1), some (.ref h2)], [.int (101 : Int32), .int x1])) rfl) ?_
      refine go_icmp rfl (fun (b14 : ¬ x1 = (101 : Int32)) => ?_) (fun (b14 : ¬ (¬ x1 = (101 : Int32))) => ?_)
      · have h := (if_pos b14).symm.trans h
        refine go_step (fun _ => ev_run 2 (F' := (25, [some (.ref 19), some (.int x1), some (.ref h2)], [.int (110 : Int32), .int x1])) rfl) ?_
        refine go_icmp rfl (fun (b25 : ¬ x1 = (110 : Int32)) => ?_) (fun (b25 : ¬ (¬ x1 = (110 : Int32))) => ?_)
        · have h := (if_pos b25).symm.trans h
          refine go_step (fun _ => ev_run 2 (F' := (37, [some (.ref 19), some (.int x1), some (.ref h2)], [.ref h2, .ref 19])) rfl) ?_
          obtain ⟨y1, hy1, h⟩ := okb h
          refine go_step (F1 := (40, [some (.ref 19), some (.int x1), some (.ref h2)], [.int y1])) (M1 := (H, z)) (fun _ => ev_callV (x := (.invokevirtual 37, 3, 70, 5, 602, .null)) (as := [.ref h2]) (rest := []) rfl rfl u_19 (C_X6_checkByTen (S := S) (d := d) (z := z) u_h2 u_q2 u_19 u_22 hm_q2 hy1) rfl) ?_
          cases h
          exact Or.inr ⟨_, ev_ret rfl rfl rfl rfl, rfl⟩
        · have h := (if_neg b25).symm.trans h
          refine go_step (fun _ => ev_run 1 (F' := (29, [some (.ref 19), some (.int x1), some (.ref h2)], [.ref h2])) rfl) ?_
          obtain ⟨y2, hy2, h⟩ := okb h
          refine go_step (F1 := (32, [some (.ref 19), some (.int x1), some (.ref h2)], [.int y2])) (M1 := (H, z)) (fun _ => ev_call (x := (.invokestatic 34, 3, 69, 5, 599, .null)) (as := [.ref h2]) (rest := []) rfl rfl (C_X6_checkByNinetySeven (S := S) (d := d) (z := z) u_h2 u_q2 hm_q2 hy2) rfl) ?_
          refine go_step (fun _ => ev_run 1 (F' := (40, [some (.ref 19), some (.int x1), some (.ref h2)], [.int y2])) rfl) ?_
          cases h
          exact Or.inr ⟨_, ev_ret rfl rfl rfl rfl, rfl⟩
      · have h := (if_neg b14).symm.trans h
        refine go_step (fun _ => ev_run 1 (F' := (18, [some (.ref 19), some (.int x1), some (.ref h2)], [.ref h2])) rfl) ?_
        obtain ⟨y3, hy3, h⟩ := okb h
        refine go_step (F1 := (21, [some (.ref 19), some (.int x1), some (.ref h2)], [.int y3])) (M1 := (H, z)) (fun _ => ev_call (x := (.invokestatic 31, 3, 68, 5, 596, .null)) (as := [.ref h2]) (rest := []) rfl rfl (C_X6_checkByEleven (S := S) (d := d) (z := z) u_h2 u_q2 hm_q2 hy3) rfl) ?_
        cases h
        exact Or.inr ⟨_, ev_ret rfl rfl rfl rfl, rfl⟩
    · have h := (if_neg b3).symm.trans h
      refine go_step (fun _ => ev_run 1 (F' := (7, [some (.ref 19), some (.int x1), some (.ref h2)], [.ref h2])) rfl) ?_
      obtain ⟨y4, hy4, h⟩ := okb h
      refine go_step (F1 := (10, [some (.ref 19), some (.int x1), some (.ref h2)], [.int y4])) (M1 := (H, z)) (fun _ => ev_call (x := (.invokestatic 27, 3, 67, 5, 591, .null)) (as := [.ref h2]) (rest := []) rfl rfl (C_X6_checkByDoubling (S := S) (d := d) (z := z) u_h2 u_q2 hm_q2 hy4) rfl) ?_
      cases h
      exact Or.inr ⟨_, ev_ret rfl rfl rfl rfl, rfl⟩
  obtain ⟨_, hE, rfl⟩ := go_end G
  exact hE
def q_X6_unseenChanges_L36 (x1 : Int32) (x4 : Int32) (x6 : Int32) (x7 : Int32) (c17_1 : Int32) (a18 : Nat → Int32) (a22 : Nat → Int32) : Nat → Int32 → Int32 → Int32 → (Nat → Int32) → Option (Int32 × Int32 × Int32 × (Nat → Int32))
  | 0, _, _, _, _ => none
  | n + 1, l5, l8, c20_1, a21 => (if (9 : Int32) < l8 then (some (l5, l8, c20_1, a21)) else (if ¬ (t_X5_at x6 18 a18) = (t_X5_at x7 18 a18) then (q_X6_unseenChanges_L36 x1 x4 x6 x7 c17_1 a18 a22 n l5 (l8 + (1 : Int32)) c20_1 a21) else (if (t_X5_at x6 18 a18) = l8 then (q_X6_unseenChanges_L36 x1 x4 x6 x7 c17_1 a18 a22 n l5 (l8 + (1 : Int32)) c20_1 a21) else ((q_X5_copy c17_1 18 a21 18 a18).bind (fun y1 => ((q_X6_checkOf x1 y1.1 18 (t_X5_change x7 l8 18 (t_X5_change x6 l8 18 y1.2)) a22).bind (fun y5 => (q_X6_unseenChanges_L36 x1 x4 x6 x7 c17_1 a18 a22 n (l5 + (if ¬ y5 = x4 then (0 : Int32) else (1 : Int32))) (l8 + (1 : Int32)) y1.1 (t_X5_change x7 l8 18 (t_X5_change x6 l8 18 y1.2))))))))))
def q_X6_unseenChanges_L14 (x1 : Int32) (x3 : Int32) (x4 : Int32) (c17_1 : Int32) (a18 : Nat → Int32) (a22 : Nat → Int32) : Nat → Int32 → Int32 → Int32 → (Nat → Int32) → Option (Int32 × Int32 × Int32 × (Nat → Int32))
  | 0, _, _, _, _ => none
  | n + 1, l5, l6, c20_1, a21 => (if (t_X5_size c17_1) < (l6 + x3) then (some (l5, l6, c20_1, a21)) else ((q_X6_unseenChanges_L36 x1 x4 l6 ((l6 + x3) - (1 : Int32)) c17_1 a18 a22 10000 l5 (0 : Int32) c20_1 a21).bind (fun y1 => (q_X6_unseenChanges_L14 x1 x3 x4 c17_1 a18 a22 n y1.1 (l6 + (1 : Int32)) y1.2.2.1 y1.2.2.2))))
def q_X6_unseenChanges (x1 : Int32) (x3 : Int32) (c17_1 : Int32) (a18 : Nat → Int32) (a22 : Nat → Int32) (c20_1 : Int32) (a21 : Nat → Int32) : Option (Int32 × Int32 × (Nat → Int32)) := ((q_X6_checkOf x1 c17_1 18 a18 a22).bind (fun y1 => ((q_X6_unseenChanges_L14 x1 x3 y1 c17_1 a18 a22 10000 (0 : Int32) (0 : Int32) c20_1 a21).bind (fun y2 => (some (y2.1, y2.2.2.1, y2.2.2.2))))))
theorem L_X6_unseenChanges_L36 {S : Nat × (Nat → Int32)} {d : Nat} {z : Bool × Nat × Nat} {x1 : Int32} {x4 : Int32} {x6 : Int32} {x7 : Int32} {c17_1 : Int32} {a18 : Nat → Int32} {a22 : Nat → Int32} {x3 : Int32} {H0 : List xE} (u_17 : H0[17]? = some (.inr (4, [.ref 18, .int c17_1]))) (u_18 : H0[18]? = some (.inl (0, 18, .inl a18))) (u_22 : H0[22]? = some (.inl (0, 190, .inl a22))) (u_19 : H0[19]? = some (.inr (5, [.ref 20, .ref 22]))) : ∀ (n : Nat) (l5 : Int32) (l8 : Int32) (c20_1 : Int32) (a21 : Nat → Int32) (H : List xE), xfr [20, 21] H0 H → H[20]? = some (.inr (4, [.ref 21, .int c20_1])) → H[21]? = some (.inl (0, 18, .inl a21)) → ∀ x, q_X6_unseenChanges_L36 x1 x4 x6 x7 c17_1 a18 a22 n l5 l8 c20_1 a21 = some x → Go S (d + 3) 65 (36, [some (.ref 19), some (.int x1), some (.ref 17), some (.int x3), some (.int x4), some (.int l5), some (.int x6), some (.int x7), some (.int l8)], []) (H, z) (fun F' M' => ∃ H' : List xE, F' = (129, [some (.ref 19), some (.int x1), some (.ref 17), some (.int x3), some (.int x4), some (.int x.1), some (.int x6), none, none], []) ∧ M' = (H', z) ∧ H'[20]? = some (.inr (4, [.ref 21, .int x.2.2.1])) ∧ H'[21]? = some (.inl (0, 18, .inl x.2.2.2)) ∧ xfr [20, 21] H0 H') (fun _ => False) := by
  intro n
  induction n with
  | zero =>
    intro l5 l8 c20_1 a21 H fr e_20 e_21 x h
    unfold q_X6_unseenChanges_L36 at h
    cases h
  | succ n ih =>
    intro l5 l8 c20_1 a21 H fr e_20 e_21 x h
    unfold q_X6_unseenChanges_L36 at h
    refine go_step (fun _ => ev_run 2 (F' := (40, [some (.ref 19), some (.int x1), some (.ref 17), some (.int x3), some (.int x4), some (.int l5), some (.int x6), some (.int x7), some (.int l8)], [.int (9 : Int32), .int l8])) rfl) ?_
    refine go_icmp rfl (fun (b40 : (9 : Int32) < l8) => ?_) (fun (b40 : ¬ ((9 : Int32) < l8)) => ?_)
    · have h := (if_pos b40).symm.trans h
      refine go_step (fun _ => ev_forget (L' := [some (.ref 19), some (.int x1), some (.ref 17), some (.int x3), some (.int x4), some (.int l5), some (.int x6), none, none]) (show xleP _ [some (.ref 19), some (.int x1), some (.ref 17), some (.int x3), some (.int x4), some (.int l5), some (.int x6), some (.int x7), some (.int l8)] from ⟨rfl, ⟨rfl, ⟨rfl, ⟨rfl, ⟨rfl, ⟨rfl, ⟨rfl, trivial⟩⟩⟩⟩⟩⟩⟩) rfl) ?_
      cases h
      exact Or.inl ⟨_, _, fun r hr => hr, H, rfl, rfl, e_20, e_21, fr⟩
    · have h := (if_neg b40).symm.trans h
      refine go_step (fun _ => ev_run 2 (F' := (46, [some (.ref 19), some (.int x1), some (.ref 17), some (.int x3), some (.int x4), some (.int l5), some (.int x6), some (.int x7), some (.int l8)], [.int x6, .ref 17])) rfl) ?_
      refine go_step (F1 := (49, [some (.ref 19), some (.int x1), some (.ref 17), some (.int x3), some (.int x4), some (.int l5), some (.int x6), some (.int x7), some (.int l8)], [.int (t_X5_at x6 18 a18)])) (M1 := (H, z)) (fun _ => ev_callV (x := (.invokevirtual 55, 3, 55, 4, 595, .null)) (as := [.int x6]) (rest := []) rfl rfl ((fr 17 rfl).trans u_17) (C_X5_at (S := S) (d := d + 2) (z := z) (x1 := x6) ((fr 17 rfl).trans u_17) ((fr 18 rfl).trans u_18) (by decide)) rfl) ?_
      refine go_step (fun _ => ev_run 2 (F' := (52, [some (.ref 19), some (.int x1), some (.ref 17), some (.int x3), some (.int x4), some (.int l5), some (.int x6), some (.int x7), some (.int l8)], [.int x7, .ref 17, .int (t_X5_at x6 18 a18)])) rfl) ?_
      refine go_step (F1 := (55, [some (.ref 19), some (.int x1), some (.ref 17), some (.int x3), some (.int x4), some (.int l5), some (.int x6), some (.int x7), some (.int l8)], [.int (t_X5_at x7 18 a18), .int (t_X5_at x6 18 a18)])) (M1 := (H, z)) (fun _ => ev_callV (x := (.invokevirtual 55, 3, 55, 4, 595, .null)) (as := [.int x7]) (rest := [.int (t_X5_at x6 18 a18)]) rfl rfl ((fr 17 rfl).trans u_17) (C_X5_at (S := S) (d := d + 2) (z := z) (x1 := x7) ((fr 17 rfl).trans u_17) ((fr 18 rfl).trans u_18) (by decide)) rfl) ?_
      refine go_icmp rfl (fun (b55 : ¬ (t_X5_at x6 18 a18) = (t_X5_at x7 18 a18)) => ?_) (fun (b55 : ¬ (¬ (t_X5_at x6 18 a18) = (t_X5_at x7 18 a18))) => ?_)
      · have h := (if_pos b55).symm.trans h
        refine go_step (fun _ => ev_run 2 (F' := (36, [some (.ref 19), some (.int x1), some (.ref 17), some (.int x3), some (.int x4), some (.int l5), some (.int x6), some (.int x7), some (.int (l8 + (1 : Int32)))], [])) rfl) ?_
        exact ih l5 (l8 + (1 : Int32)) c20_1 a21 H fr e_20 e_21 _ h
      · have h := (if_neg b55).symm.trans h
        refine go_step (fun _ => ev_run 2 (F' := (61, [some (.ref 19), some (.int x1), some (.ref 17), some (.int x3), some (.int x4), some (.int l5), some (.int x6), some (.int x7), some (.int l8)], [.int x6, .ref 17])) rfl) ?_
        refine go_step (F1 := (64, [some (.ref 19), some (.int x1), some (.ref 17), some (.int x3), some (.int x4), some (.int l5), some (.int x6), some (.int x7), some (.int l8)], [.int (t_X5_at x6 18 a18)])) (M1 := (H, z)) (fun _ => ev_callV (x := (.invokevirtual 55, 3, 55, 4, 595, .null)) (as := [.int x6]) (rest := []) rfl rfl ((fr 17 rfl).trans u_17) (C_X5_at (S := S) (d := d + 2) (z := z) (x1 := x6) ((fr 17 rfl).trans u_17) ((fr 18 rfl).trans u_18) (by decide)) rfl) ?_
        refine go_step (fun _ => ev_run 1 (F' := (66, [some (.ref 19), some (.int x1), some (.ref 17), some (.int x3), some (.int x4), some (.int l5), some (.int x6), some (.int x7), some (.int l8)], [.int l8, .int (t_X5_at x6 18 a18)])) rfl) ?_
        refine go_icmp rfl (fun (b66 : (t_X5_at x6 18 a18) = l8) => ?_) (fun (b66 : ¬ ((t_X5_at x6 18 a18) = l8)) => ?_)
        · have h := (if_pos b66).symm.trans h
          refine go_step (fun _ => ev_run 2 (F' := (36, [some (.ref 19), some (.int x1), some (.ref 17), some (.int x3), some (.int x4), some (.int l5), some (.int x6), some (.int x7), some (.int (l8 + (1 : Int32)))], [])) rfl) ?_
          exact ih l5 (l8 + (1 : Int32)) c20_1 a21 H fr e_20 e_21 _ h
        · have h := (if_neg b66).symm.trans h
          refine go_step (fun _ => ev_run 1 (F' := (70, [some (.ref 19), some (.int x1), some (.ref 17), some (.int x3), some (.int x4), some (.int l5), some (.int x6), some (.int x7), some (.int l8)], [.ref 19])) rfl) ?_
          refine go_step (fun _ => ev_getf rfl ((fr 19 rfl).trans u_19) rfl) ?_
          refine go_step (fun _ => ev_run 1 (F' := (74, [some (.ref 19), some (.int x1), some (.ref 17), some (.int x3), some (.int x4), some (.int l5), some (.int x6), some (.int x7), some (.int l8)], [.ref 17, .ref 20])) rfl) ?_
          obtain ⟨y1, hy1, h⟩ := okb h
          obtain ⟨H2, hCH2, eH2_20, eH2_21, fH2⟩ := C_X5_copy (S := S) (d := d + 1) (z := z) ((fr 17 rfl).trans u_17) e_20 e_21 ((fr 18 rfl).trans u_18) (nb rfl) (nb rfl) (nb rfl) (nb rfl) (nb rfl) (by decide) (by decide) hy1
          refine go_step (F1 := (77, [some (.ref 19), some (.int x1), some (.ref 17), some (.int x3), some (.int x4), some (.int l5), some (.int x6), some (.int x7), some (.int l8)], [])) (M1 := (H2, z)) (fun _ => ev_callV (x := (.invokevirtual 59, 3, 60, 4, 609, .null)) (as := [.ref 17]) (rest := []) rfl rfl e_20 hCH2 rfl) ?_
          refine go_step (fun _ => ev_run 1 (F' := (78, [some (.ref 19), some (.int x1), some (.ref 17), some (.int x3), some (.int x4), some (.int l5), some (.int x6), some (.int x7), some (.int l8)], [.ref 19])) rfl) ?_
          refine go_step (fun _ => ev_getf rfl ((fH2 19 rfl).trans ((fr 19 rfl).trans u_19)) rfl) ?_
          refine go_step (fun _ => ev_run 2 (F' := (85, [some (.ref 19), some (.int x1), some (.ref 17), some (.int x3), some (.int x4), some (.int l5), some (.int x6), some (.int x7), some (.int l8)], [.int l8, .int x6, .ref 20])) rfl) ?_
          obtain ⟨H3, hCH3, eH3_21, fH3⟩ := C_X5_change (S := S) (d := d + 2) (z := z) (x1 := x6) (x2 := l8) eH2_20 eH2_21 (by decide)
          refine go_step (F1 := (88, [some (.ref 19), some (.int x1), some (.ref 17), some (.int x3), some (.int x4), some (.int l5), some (.int x6), some (.int x7), some (.int l8)], [])) (M1 := (H3, z)) (fun _ => ev_callV (x := (.invokevirtual 63, 3, 56, 4, 614, .null)) (as := [.int x6, .int l8]) (rest := []) rfl rfl eH2_20 hCH3 rfl) ?_
          refine go_step (fun _ => ev_run 1 (F' := (89, [some (.ref 19), some (.int x1), some (.ref 17), some (.int x3), some (.int x4), some (.int l5), some (.int x6), some (.int x7), some (.int l8)], [.ref 19])) rfl) ?_
          refine go_step (fun _ => ev_getf rfl ((fH3 19 rfl).trans ((fH2 19 rfl).trans ((fr 19 rfl).trans u_19))) rfl) ?_
          refine go_step (fun _ => ev_run 2 (F' := (96, [some (.ref 19), some (.int x1), some (.ref 17), some (.int x3), some (.int x4), some (.int l5), some (.int x6), some (.int x7), some (.int l8)], [.int l8, .int x7, .ref 20])) rfl) ?_
          obtain ⟨H4, hCH4, eH4_21, fH4⟩ := C_X5_change (S := S) (d := d + 2) (z := z) (x1 := x7) (x2 := l8) ((fH3 20 rfl).trans eH2_20) eH3_21 (by decide)
          refine go_step (F1 := (99, [some (.ref 19), some (.int x1), some (.ref 17), some (.int x3), some (.int x4), some (.int l5), some (.int x6), some (.int x7), some (.int l8)], [])) (M1 := (H4, z)) (fun _ => ev_callV (x := (.invokevirtual 63, 3, 56, 4, 614, .null)) (as := [.int x7, .int l8]) (rest := []) rfl rfl ((fH3 20 rfl).trans eH2_20) hCH4 rfl) ?_
          refine go_step (fun _ => ev_run 4 (F' := (104, [some (.ref 19), some (.int x1), some (.ref 17), some (.int x3), some (.int x4), some (.int l5), some (.int x6), some (.int x7), some (.int l8)], [.ref 19, .int x1, .ref 19, .int l5])) rfl) ?_
          refine go_step (fun _ => ev_getf rfl ((fH4 19 rfl).trans ((fH3 19 rfl).trans ((fH2 19 rfl).trans ((fr 19 rfl).trans u_19)))) rfl) ?_
          obtain ⟨y5, hy5, h⟩ := okb h
          refine go_step (F1 := (110, [some (.ref 19), some (.int x1), some (.ref 17), some (.int x3), some (.int x4), some (.int l5), some (.int x6), some (.int x7), some (.int l8)], [.int y5, .int l5])) (M1 := (H4, z)) (fun _ => ev_callV (x := (.invokevirtual 47, 3, 63, 5, 587, .null)) (as := [.int x1, .ref 20]) (rest := [.int l5]) rfl rfl ((fH4 19 rfl).trans ((fH3 19 rfl).trans ((fH2 19 rfl).trans ((fr 19 rfl).trans u_19)))) (C_X6_checkOf (S := S) (d := d) (z := z) (x1 := x1) ((fH4 20 rfl).trans ((fH3 20 rfl).trans eH2_20)) eH4_21 ((fH4 22 rfl).trans ((fH3 22 rfl).trans ((fH2 22 rfl).trans ((fr 22 rfl).trans u_22)))) ((fH4 19 rfl).trans ((fH3 19 rfl).trans ((fH2 19 rfl).trans ((fr 19 rfl).trans u_19)))) (by decide) hy5) rfl) ?_
          refine go_step (fun _ => ev_run 1 (F' := (112, [some (.ref 19), some (.int x1), some (.ref 17), some (.int x3), some (.int x4), some (.int l5), some (.int x6), some (.int x7), some (.int l8)], [.int x4, .int y5, .int l5])) rfl) ?_
          refine go_step (F1 := (120, [some (.ref 19), some (.int x1), some (.ref 17), some (.int x3), some (.int x4), none, some (.int x6), some (.int x7), some (.int l8)], [.int (if ¬ y5 = x4 then (0 : Int32) else (1 : Int32)), .int l5])) (M1 := (H4, z)) (fun r K => ?_) ?_
          · skip
            refine ev_icmp rfl (fun (b112 : ¬ y5 = x4) => ?_) (fun (b112 : ¬ (¬ y5 = x4)) => ?_)
            · skip
              refine ev_run 1 (F' := (120, [some (.ref 19), some (.int x1), some (.ref 17), some (.int x3), some (.int x4), some (.int l5), some (.int x6), some (.int x7), some (.int l8)], [.int (0 : Int32), .int l5])) rfl ?_
              refine ev_forget (L' := [some (.ref 19), some (.int x1), some (.ref 17), some (.int x3), some (.int x4), none, some (.int x6), some (.int x7), some (.int l8)]) (show xleP _ [some (.ref 19), some (.int x1), some (.ref 17), some (.int x3), some (.int x4), some (.int l5), some (.int x6), some (.int x7), some (.int l8)] from ⟨rfl, ⟨rfl, ⟨rfl, ⟨rfl, ⟨rfl, ⟨rfl, ⟨rfl, ⟨rfl, trivial⟩⟩⟩⟩⟩⟩⟩⟩) rfl ?_
              exact ev_cast (show ((120, [some (.ref 19), some (.int x1), some (.ref 17), some (.int x3), some (.int x4), none, some (.int x6), some (.int x7), some (.int l8)], [.int (0 : Int32), .int l5]) : xF) = (120, [some (.ref 19), some (.int x1), some (.ref 17), some (.int x3), some (.int x4), none, some (.int x6), some (.int x7), some (.int l8)], [.int (if ¬ y5 = x4 then (0 : Int32) else (1 : Int32)), .int l5]) by first | (simp only [if_pos b112]; done) | rfl) rfl K
            · skip
              refine ev_run 2 (F' := (120, [some (.ref 19), some (.int x1), some (.ref 17), some (.int x3), some (.int x4), some (.int l5), some (.int x6), some (.int x7), some (.int l8)], [.int (1 : Int32), .int l5])) rfl ?_
              refine ev_forget (L' := [some (.ref 19), some (.int x1), some (.ref 17), some (.int x3), some (.int x4), none, some (.int x6), some (.int x7), some (.int l8)]) (show xleP _ [some (.ref 19), some (.int x1), some (.ref 17), some (.int x3), some (.int x4), some (.int l5), some (.int x6), some (.int x7), some (.int l8)] from ⟨rfl, ⟨rfl, ⟨rfl, ⟨rfl, ⟨rfl, ⟨rfl, ⟨rfl, ⟨rfl, trivial⟩⟩⟩⟩⟩⟩⟩⟩) rfl ?_
              exact ev_cast (show ((120, [some (.ref 19), some (.int x1), some (.ref 17), some (.int x3), some (.int x4), none, some (.int x6), some (.int x7), some (.int l8)], [.int (1 : Int32), .int l5]) : xF) = (120, [some (.ref 19), some (.int x1), some (.ref 17), some (.int x3), some (.int x4), none, some (.int x6), some (.int x7), some (.int l8)], [.int (if ¬ y5 = x4 then (0 : Int32) else (1 : Int32)), .int l5]) by first | (simp only [if_neg b112]; done) | rfl) rfl K
          refine go_step (fun _ => ev_run 4 (F' := (36, [some (.ref 19), some (.int x1), some (.ref 17), some (.int x3), some (.int x4), some (.int (l5 + (if ¬ y5 = x4 then (0 : Int32) else (1 : Int32)))), some (.int x6), some (.int x7), some (.int (l8 + (1 : Int32)))], [])) rfl) ?_
          exact ih (l5 + (if ¬ y5 = x4 then (0 : Int32) else (1 : Int32))) (l8 + (1 : Int32)) y1.1 (t_X5_change x7 l8 18 (t_X5_change x6 l8 18 y1.2)) H4 (xfr_t (xfr_t (xfr_t fr rfl fH2) rfl fH3) rfl fH4) ((fH4 20 rfl).trans ((fH3 20 rfl).trans eH2_20)) eH4_21 _ h
theorem L_X6_unseenChanges_L14 {S : Nat × (Nat → Int32)} {d : Nat} {z : Bool × Nat × Nat} {x1 : Int32} {x3 : Int32} {x4 : Int32} {c17_1 : Int32} {a18 : Nat → Int32} {a22 : Nat → Int32} {H0 : List xE} (u_17 : H0[17]? = some (.inr (4, [.ref 18, .int c17_1]))) (u_18 : H0[18]? = some (.inl (0, 18, .inl a18))) (u_22 : H0[22]? = some (.inl (0, 190, .inl a22))) (u_19 : H0[19]? = some (.inr (5, [.ref 20, .ref 22]))) : ∀ (n : Nat) (l5 : Int32) (l6 : Int32) (c20_1 : Int32) (a21 : Nat → Int32) (H : List xE), xfr [20, 21] H0 H → H[20]? = some (.inr (4, [.ref 21, .int c20_1])) → H[21]? = some (.inl (0, 18, .inl a21)) → ∀ x, q_X6_unseenChanges_L14 x1 x3 x4 c17_1 a18 a22 n l5 l6 c20_1 a21 = some x → Go S (d + 3) 65 (14, [some (.ref 19), some (.int x1), some (.ref 17), some (.int x3), some (.int x4), some (.int l5), some (.int l6), none, none], []) (H, z) (fun F' M' => ∃ H' : List xE, F' = (135, [none, none, none, none, none, some (.int x.1), none, none, none], []) ∧ M' = (H', z) ∧ H'[20]? = some (.inr (4, [.ref 21, .int x.2.2.1])) ∧ H'[21]? = some (.inl (0, 18, .inl x.2.2.2)) ∧ xfr [20, 21] H0 H') (fun _ => False) := by
  intro n
  induction n with
  | zero =>
    intro l5 l6 c20_1 a21 H fr e_20 e_21 x h
    unfold q_X6_unseenChanges_L14 at h
    cases h
  | succ n ih =>
    intro l5 l6 c20_1 a21 H fr e_20 e_21 x h
    unfold q_X6_unseenChanges_L14 at h
    refine go_step (fun _ => ev_run 4 (F' := (19, [some (.ref 19), some (.int x1), some (.ref 17), some (.int x3), some (.int x4), some (.int l5), some (.int l6), none, none], [.ref 17, .int (l6 + x3)])) rfl) ?_
    refine go_step (F1 := (22, [some (.ref 19), some (.int x1), some (.ref 17), some (.int x3), some (.int x4), some (.int l5), some (.int l6), none, none], [.int (t_X5_size c17_1), .int (l6 + x3)])) (M1 := (H, z)) (fun _ => ev_callV (x := (.invokevirtual 51, 3, 53, 4, 594, .null)) (as := []) (rest := [.int (l6 + x3)]) rfl rfl ((fr 17 rfl).trans u_17) (C_X5_size (S := S) (d := d + 2) (z := z) ((fr 17 rfl).trans u_17)) rfl) ?_
    refine go_icmp rfl (fun (b22 : (t_X5_size c17_1) < (l6 + x3)) => ?_) (fun (b22 : ¬ ((t_X5_size c17_1) < (l6 + x3))) => ?_)
    · have h := (if_pos b22).symm.trans h
      refine go_step (fun _ => ev_forget (L' := [none, none, none, none, none, some (.int l5), none, none, none]) (show xleP _ [some (.ref 19), some (.int x1), some (.ref 17), some (.int x3), some (.int x4), some (.int l5), some (.int l6), none, none] from ⟨rfl, trivial⟩) rfl) ?_
      cases h
      exact Or.inl ⟨_, _, fun r hr => hr, H, rfl, rfl, e_20, e_21, fr⟩
    · have h := (if_neg b22).symm.trans h
      refine go_step (fun _ => ev_run 8 (F' := (36, [some (.ref 19), some (.int x1), some (.ref 17), some (.int x3), some (.int x4), some (.int l5), some (.int l6), some (.int ((l6 + x3) - (1 : Int32))), some (.int (0 : Int32))], [])) rfl) ?_
      obtain ⟨y1, hy1, h⟩ := okb h
      obtain ⟨_, _, hr3, H2, rfl, rfl, eH2_20, eH2_21, fH2⟩ := go_nr (L_X6_unseenChanges_L36 (S := S) (d := d) (z := z) (x1 := x1) (x3 := x3) (x4 := x4) (x6 := l6) (x7 := ((l6 + x3) - (1 : Int32))) ((fr 17 rfl).trans u_17) ((fr 18 rfl).trans u_18) ((fr 22 rfl).trans u_22) ((fr 19 rfl).trans u_19) 10000 l5 (0 : Int32) c20_1 a21 H xfr_refl e_20 e_21 _ hy1)
      refine go_step hr3 ?_
      refine go_step (fun _ => ev_run 2 (F' := (14, [some (.ref 19), some (.int x1), some (.ref 17), some (.int x3), some (.int x4), some (.int y1.1), some (.int (l6 + (1 : Int32))), none, none], [])) rfl) ?_
      exact ih y1.1 (l6 + (1 : Int32)) y1.2.2.1 y1.2.2.2 H2 (xfr_t fr rfl fH2) eH2_20 eH2_21 _ h
theorem C_X6_unseenChanges {S : Nat × (Nat → Int32)} {d : Nat} {H : List xE} {z : Bool × Nat × Nat} {c17_1 : Int32} {a18 : Nat → Int32} {a22 : Nat → Int32} {c20_1 : Int32} {a21 : Nat → Int32} {x1 : Int32} {x3 : Int32} (u_17 : H[17]? = some (.inr (4, [.ref 18, .int c17_1]))) (u_18 : H[18]? = some (.inl (0, 18, .inl a18))) (u_22 : H[22]? = some (.inl (0, 190, .inl a22))) (u_19 : H[19]? = some (.inr (5, [.ref 20, .ref 22]))) (u_20 : H[20]? = some (.inr (4, [.ref 21, .int c20_1]))) (u_21 : H[21]? = some (.inl (0, 18, .inl a21))) {x : (Int32 × Int32 × (Nat → Int32))} (h : q_X6_unseenChanges x1 x3 c17_1 a18 a22 c20_1 a21 = some x) : ∃ H' : List xE, Cm S (d + 3) 65 [.ref 19, .int x1, .ref 17, .int x3] (H, z) (.inr (some (.int x.1)), (H', z)) ∧ H'[20]? = some (.inr (4, [.ref 21, .int x.2.1])) ∧ H'[21]? = some (.inl (0, 18, .inl x.2.2)) ∧ xfr [20, 21] H H' := by
  have G : Go S (d + 3) 65 (0, [some (.ref 19), some (.int x1), some (.ref 17), some (.int x3), none, none, none, none, none], []) (H, z) (fun _ _ => False) (fun r => ∃ H' : List xE, r = (.inr (some (.int x.1)), (H', z)) ∧ H'[20]? = some (.inr (4, [.ref 21, .int x.2.1])) ∧ H'[21]? = some (.inl (0, 18, .inl x.2.2)) ∧ xfr [20, 21] H H') := by
    unfold q_X6_unseenChanges at h
    refine go_step (fun _ => ev_run 3 (F' := (3, [some (.ref 19), some (.int x1), some (.ref 17), some (.int x3), none, none, none, none, none], [.ref 17, .int x1, .ref 19])) rfl) ?_
    obtain ⟨y1, hy1, h⟩ := okb h
    refine go_step (F1 := (6, [some (.ref 19), some (.int x1), some (.ref 17), some (.int x3), none, none, none, none, none], [.int y1])) (M1 := (H, z)) (fun _ => ev_callV (x := (.invokevirtual 47, 3, 63, 5, 587, .null)) (as := [.int x1, .ref 17]) (rest := []) rfl rfl u_19 (C_X6_checkOf (S := S) (d := d) (z := z) (x1 := x1) u_17 u_18 u_22 u_19 (by decide) hy1) rfl) ?_
    refine go_step (fun _ => ev_run 5 (F' := (14, [some (.ref 19), some (.int x1), some (.ref 17), some (.int x3), some (.int y1), some (.int (0 : Int32)), some (.int (0 : Int32)), none, none], [])) rfl) ?_
    obtain ⟨y2, hy2, h⟩ := okb h
    obtain ⟨_, _, hr4, H3, rfl, rfl, eH3_20, eH3_21, fH3⟩ := go_nr (L_X6_unseenChanges_L14 (S := S) (d := d) (z := z) (x1 := x1) (x3 := x3) (x4 := y1) u_17 u_18 u_22 u_19 10000 (0 : Int32) (0 : Int32) c20_1 a21 H xfr_refl u_20 u_21 _ hy2)
    refine go_step hr4 ?_
    refine go_step (fun _ => ev_run 1 (F' := (137, [none, none, none, none, none, some (.int y2.1), none, none, none], [.int y2.1])) rfl) ?_
    cases h
    exact Or.inr ⟨_, ev_ret rfl rfl rfl rfl, H3, rfl, eH3_20, eH3_21, (xfr_t xfr_refl rfl fH3)⟩
  obtain ⟨_, hE, H', rfl, hrest⟩ := go_end G
  exact ⟨H', hE, hrest⟩
def q_X6_unseenSwaps_L14 (x1 : Int32) (x3 : Int32) (x4 : Int32) (c17_1 : Int32) (a18 : Nat → Int32) (a22 : Nat → Int32) : Nat → Int32 → Int32 → Int32 → (Nat → Int32) → Option (Int32 × Int32 × Int32 × (Nat → Int32))
  | 0, _, _, _, _ => none
  | n + 1, l5, l6, c20_1, a21 => (if (t_X5_size c17_1) ≤ (l6 + x3) then (some (l5, l6, c20_1, a21)) else (if (t_X5_at l6 18 a18) = (t_X5_at (l6 + x3) 18 a18) then (q_X6_unseenSwaps_L14 x1 x3 x4 c17_1 a18 a22 n l5 (l6 + (1 : Int32)) c20_1 a21) else ((q_X5_copy c17_1 18 a21 18 a18).bind (fun y1 => ((q_X6_checkOf x1 y1.1 18 (t_X5_change (l6 + x3) (t_X5_at l6 18 a18) 18 (t_X5_change l6 (t_X5_at (l6 + x3) 18 a18) 18 y1.2)) a22).bind (fun y5 => (q_X6_unseenSwaps_L14 x1 x3 x4 c17_1 a18 a22 n (l5 + (if ¬ y5 = x4 then (0 : Int32) else (1 : Int32))) (l6 + (1 : Int32)) y1.1 (t_X5_change (l6 + x3) (t_X5_at l6 18 a18) 18 (t_X5_change l6 (t_X5_at (l6 + x3) 18 a18) 18 y1.2)))))))))
def q_X6_unseenSwaps (x1 : Int32) (x3 : Int32) (c17_1 : Int32) (a18 : Nat → Int32) (a22 : Nat → Int32) (c20_1 : Int32) (a21 : Nat → Int32) : Option (Int32 × Int32 × (Nat → Int32)) := ((q_X6_checkOf x1 c17_1 18 a18 a22).bind (fun y1 => ((q_X6_unseenSwaps_L14 x1 x3 y1 c17_1 a18 a22 10000 (0 : Int32) (0 : Int32) c20_1 a21).bind (fun y2 => (some (y2.1, y2.2.2.1, y2.2.2.2))))))
theorem L_X6_unseenSwaps_L14 {S : Nat × (Nat → Int32)} {d : Nat} {z : Bool × Nat × Nat} {x1 : Int32} {x3 : Int32} {x4 : Int32} {c17_1 : Int32} {a18 : Nat → Int32} {a22 : Nat → Int32} {H0 : List xE} (u_17 : H0[17]? = some (.inr (4, [.ref 18, .int c17_1]))) (u_18 : H0[18]? = some (.inl (0, 18, .inl a18))) (u_22 : H0[22]? = some (.inl (0, 190, .inl a22))) (u_19 : H0[19]? = some (.inr (5, [.ref 20, .ref 22]))) : ∀ (n : Nat) (l5 : Int32) (l6 : Int32) (c20_1 : Int32) (a21 : Nat → Int32) (H : List xE), xfr [20, 21] H0 H → H[20]? = some (.inr (4, [.ref 21, .int c20_1])) → H[21]? = some (.inl (0, 18, .inl a21)) → ∀ x, q_X6_unseenSwaps_L14 x1 x3 x4 c17_1 a18 a22 n l5 l6 c20_1 a21 = some x → Go S (d + 3) 66 (14, [some (.ref 19), some (.int x1), some (.ref 17), some (.int x3), some (.int x4), some (.int l5), some (.int l6)], []) (H, z) (fun F' M' => ∃ H' : List xE, F' = (114, [none, none, none, none, none, some (.int x.1), none], []) ∧ M' = (H', z) ∧ H'[20]? = some (.inr (4, [.ref 21, .int x.2.2.1])) ∧ H'[21]? = some (.inl (0, 18, .inl x.2.2.2)) ∧ xfr [20, 21] H0 H') (fun _ => False) := by
  intro n
  induction n with
  | zero =>
    intro l5 l6 c20_1 a21 H fr e_20 e_21 x h
    unfold q_X6_unseenSwaps_L14 at h
    cases h
  | succ n ih =>
    intro l5 l6 c20_1 a21 H fr e_20 e_21 x h
    unfold q_X6_unseenSwaps_L14 at h
    refine go_step (fun _ => ev_run 4 (F' := (19, [some (.ref 19), some (.int x1), some (.ref 17), some (.int x3), some (.int x4), some (.int l5), some (.int l6)], [.ref 17, .int (l6 + x3)])) rfl) ?_
    refine go_step (F1 := (22, [some (.ref 19), some (.int x1), some (.ref 17), some (.int x3), some (.int x4), some (.int l5), some (.int l6)], [.int (t_X5_size c17_1), .int (l6 + x3)])) (M1 := (H, z)) (fun _ => ev_callV (x := (.invokevirtual 51, 3, 53, 4, 594, .null)) (as := []) (rest := [.int (l6 + x3)]) rfl rfl ((fr 17 rfl).trans u_17) (C_X5_size (S := S) (d := d + 2) (z := z) ((fr 17 rfl).trans u_17)) rfl) ?_
    refine go_icmp rfl (fun (b22 : (t_X5_size c17_1) ≤ (l6 + x3)) => ?_) (fun (b22 : ¬ ((t_X5_size c17_1) ≤ (l6 + x3))) => ?_)
    · have h := (if_pos b22).symm.trans h
      refine go_step (fun _ => ev_forget (L' := [none, none, none, none, none, some (.int l5), none]) (show xleP _ [some (.ref 19), some (.int x1), some (.ref 17), some (.int x3), some (.int x4), some (.int l5), some (.int l6)] from ⟨rfl, trivial⟩) rfl) ?_
      cases h
      exact Or.inl ⟨_, _, fun r hr => hr, H, rfl, rfl, e_20, e_21, fr⟩
    · have h := (if_neg b22).symm.trans h
      refine go_step (fun _ => ev_run 2 (F' := (28, [some (.ref 19), some (.int x1), some (.ref 17), some (.int x3), some (.int x4), some (.int l5), some (.int l6)], [.int l6, .ref 17])) rfl) ?_
      refine go_step (F1 := (31, [some (.ref 19), some (.int x1), some (.ref 17), some (.int x3), some (.int x4), some (.int l5), some (.int l6)], [.int (t_X5_at l6 18 a18)])) (M1 := (H, z)) (fun _ => ev_callV (x := (.invokevirtual 55, 3, 55, 4, 595, .null)) (as := [.int l6]) (rest := []) rfl rfl ((fr 17 rfl).trans u_17) (C_X5_at (S := S) (d := d + 2) (z := z) (x1 := l6) ((fr 17 rfl).trans u_17) ((fr 18 rfl).trans u_18) (by decide)) rfl) ?_
      refine go_step (fun _ => ev_run 4 (F' := (36, [some (.ref 19), some (.int x1), some (.ref 17), some (.int x3), some (.int x4), some (.int l5), some (.int l6)], [.int (l6 + x3), .ref 17, .int (t_X5_at l6 18 a18)])) rfl) ?_
      refine go_step (F1 := (39, [some (.ref 19), some (.int x1), some (.ref 17), some (.int x3), some (.int x4), some (.int l5), some (.int l6)], [.int (t_X5_at (l6 + x3) 18 a18), .int (t_X5_at l6 18 a18)])) (M1 := (H, z)) (fun _ => ev_callV (x := (.invokevirtual 55, 3, 55, 4, 595, .null)) (as := [.int (l6 + x3)]) (rest := [.int (t_X5_at l6 18 a18)]) rfl rfl ((fr 17 rfl).trans u_17) (C_X5_at (S := S) (d := d + 2) (z := z) (x1 := (l6 + x3)) ((fr 17 rfl).trans u_17) ((fr 18 rfl).trans u_18) (by decide)) rfl) ?_
      refine go_icmp rfl (fun (b39 : (t_X5_at l6 18 a18) = (t_X5_at (l6 + x3) 18 a18)) => ?_) (fun (b39 : ¬ ((t_X5_at l6 18 a18) = (t_X5_at (l6 + x3) 18 a18))) => ?_)
      · have h := (if_pos b39).symm.trans h
        refine go_step (fun _ => ev_run 2 (F' := (14, [some (.ref 19), some (.int x1), some (.ref 17), some (.int x3), some (.int x4), some (.int l5), some (.int (l6 + (1 : Int32)))], [])) rfl) ?_
        exact ih l5 (l6 + (1 : Int32)) c20_1 a21 H fr e_20 e_21 _ h
      · have h := (if_neg b39).symm.trans h
        refine go_step (fun _ => ev_run 1 (F' := (43, [some (.ref 19), some (.int x1), some (.ref 17), some (.int x3), some (.int x4), some (.int l5), some (.int l6)], [.ref 19])) rfl) ?_
        refine go_step (fun _ => ev_getf rfl ((fr 19 rfl).trans u_19) rfl) ?_
        refine go_step (fun _ => ev_run 1 (F' := (47, [some (.ref 19), some (.int x1), some (.ref 17), some (.int x3), some (.int x4), some (.int l5), some (.int l6)], [.ref 17, .ref 20])) rfl) ?_
        obtain ⟨y1, hy1, h⟩ := okb h
        obtain ⟨H2, hCH2, eH2_20, eH2_21, fH2⟩ := C_X5_copy (S := S) (d := d + 1) (z := z) ((fr 17 rfl).trans u_17) e_20 e_21 ((fr 18 rfl).trans u_18) (nb rfl) (nb rfl) (nb rfl) (nb rfl) (nb rfl) (by decide) (by decide) hy1
        refine go_step (F1 := (50, [some (.ref 19), some (.int x1), some (.ref 17), some (.int x3), some (.int x4), some (.int l5), some (.int l6)], [])) (M1 := (H2, z)) (fun _ => ev_callV (x := (.invokevirtual 59, 3, 60, 4, 609, .null)) (as := [.ref 17]) (rest := []) rfl rfl e_20 hCH2 rfl) ?_
        refine go_step (fun _ => ev_run 1 (F' := (51, [some (.ref 19), some (.int x1), some (.ref 17), some (.int x3), some (.int x4), some (.int l5), some (.int l6)], [.ref 19])) rfl) ?_
        refine go_step (fun _ => ev_getf rfl ((fH2 19 rfl).trans ((fr 19 rfl).trans u_19)) rfl) ?_
        refine go_step (fun _ => ev_run 5 (F' := (61, [some (.ref 19), some (.int x1), some (.ref 17), some (.int x3), some (.int x4), some (.int l5), some (.int l6)], [.int (l6 + x3), .ref 17, .int l6, .ref 20])) rfl) ?_
        refine go_step (F1 := (64, [some (.ref 19), some (.int x1), some (.ref 17), some (.int x3), some (.int x4), some (.int l5), some (.int l6)], [.int (t_X5_at (l6 + x3) 18 a18), .int l6, .ref 20])) (M1 := (H2, z)) (fun _ => ev_callV (x := (.invokevirtual 55, 3, 55, 4, 595, .null)) (as := [.int (l6 + x3)]) (rest := [.int l6, .ref 20]) rfl rfl ((fH2 17 rfl).trans ((fr 17 rfl).trans u_17)) (C_X5_at (S := S) (d := d + 2) (z := z) (x1 := (l6 + x3)) ((fH2 17 rfl).trans ((fr 17 rfl).trans u_17)) ((fH2 18 rfl).trans ((fr 18 rfl).trans u_18)) (by decide)) rfl) ?_
        obtain ⟨H3, hCH3, eH3_21, fH3⟩ := C_X5_change (S := S) (d := d + 2) (z := z) (x1 := l6) (x2 := (t_X5_at (l6 + x3) 18 a18)) eH2_20 eH2_21 (by decide)
        refine go_step (F1 := (67, [some (.ref 19), some (.int x1), some (.ref 17), some (.int x3), some (.int x4), some (.int l5), some (.int l6)], [])) (M1 := (H3, z)) (fun _ => ev_callV (x := (.invokevirtual 63, 3, 56, 4, 614, .null)) (as := [.int l6, .int (t_X5_at (l6 + x3) 18 a18)]) (rest := []) rfl rfl eH2_20 hCH3 rfl) ?_
        refine go_step (fun _ => ev_run 1 (F' := (68, [some (.ref 19), some (.int x1), some (.ref 17), some (.int x3), some (.int x4), some (.int l5), some (.int l6)], [.ref 19])) rfl) ?_
        refine go_step (fun _ => ev_getf rfl ((fH3 19 rfl).trans ((fH2 19 rfl).trans ((fr 19 rfl).trans u_19))) rfl) ?_
        refine go_step (fun _ => ev_run 5 (F' := (78, [some (.ref 19), some (.int x1), some (.ref 17), some (.int x3), some (.int x4), some (.int l5), some (.int l6)], [.int l6, .ref 17, .int (l6 + x3), .ref 20])) rfl) ?_
        refine go_step (F1 := (81, [some (.ref 19), some (.int x1), some (.ref 17), some (.int x3), some (.int x4), some (.int l5), some (.int l6)], [.int (t_X5_at l6 18 a18), .int (l6 + x3), .ref 20])) (M1 := (H3, z)) (fun _ => ev_callV (x := (.invokevirtual 55, 3, 55, 4, 595, .null)) (as := [.int l6]) (rest := [.int (l6 + x3), .ref 20]) rfl rfl ((fH3 17 rfl).trans ((fH2 17 rfl).trans ((fr 17 rfl).trans u_17))) (C_X5_at (S := S) (d := d + 2) (z := z) (x1 := l6) ((fH3 17 rfl).trans ((fH2 17 rfl).trans ((fr 17 rfl).trans u_17))) ((fH3 18 rfl).trans ((fH2 18 rfl).trans ((fr 18 rfl).trans u_18))) (by decide)) rfl) ?_
        obtain ⟨H4, hCH4, eH4_21, fH4⟩ := C_X5_change (S := S) (d := d + 2) (z := z) (x1 := (l6 + x3)) (x2 := (t_X5_at l6 18 a18)) ((fH3 20 rfl).trans eH2_20) eH3_21 (by decide)
        refine go_step (F1 := (84, [some (.ref 19), some (.int x1), some (.ref 17), some (.int x3), some (.int x4), some (.int l5), some (.int l6)], [])) (M1 := (H4, z)) (fun _ => ev_callV (x := (.invokevirtual 63, 3, 56, 4, 614, .null)) (as := [.int (l6 + x3), .int (t_X5_at l6 18 a18)]) (rest := []) rfl rfl ((fH3 20 rfl).trans eH2_20) hCH4 rfl) ?_
        refine go_step (fun _ => ev_run 4 (F' := (89, [some (.ref 19), some (.int x1), some (.ref 17), some (.int x3), some (.int x4), some (.int l5), some (.int l6)], [.ref 19, .int x1, .ref 19, .int l5])) rfl) ?_
        refine go_step (fun _ => ev_getf rfl ((fH4 19 rfl).trans ((fH3 19 rfl).trans ((fH2 19 rfl).trans ((fr 19 rfl).trans u_19)))) rfl) ?_
        obtain ⟨y5, hy5, h⟩ := okb h
        refine go_step (F1 := (95, [some (.ref 19), some (.int x1), some (.ref 17), some (.int x3), some (.int x4), some (.int l5), some (.int l6)], [.int y5, .int l5])) (M1 := (H4, z)) (fun _ => ev_callV (x := (.invokevirtual 47, 3, 63, 5, 587, .null)) (as := [.int x1, .ref 20]) (rest := [.int l5]) rfl rfl ((fH4 19 rfl).trans ((fH3 19 rfl).trans ((fH2 19 rfl).trans ((fr 19 rfl).trans u_19)))) (C_X6_checkOf (S := S) (d := d) (z := z) (x1 := x1) ((fH4 20 rfl).trans ((fH3 20 rfl).trans eH2_20)) eH4_21 ((fH4 22 rfl).trans ((fH3 22 rfl).trans ((fH2 22 rfl).trans ((fr 22 rfl).trans u_22)))) ((fH4 19 rfl).trans ((fH3 19 rfl).trans ((fH2 19 rfl).trans ((fr 19 rfl).trans u_19)))) (by decide) hy5) rfl) ?_
        refine go_step (fun _ => ev_run 1 (F' := (97, [some (.ref 19), some (.int x1), some (.ref 17), some (.int x3), some (.int x4), some (.int l5), some (.int l6)], [.int x4, .int y5, .int l5])) rfl) ?_
        refine go_step (F1 := (105, [some (.ref 19), some (.int x1), some (.ref 17), some (.int x3), some (.int x4), none, some (.int l6)], [.int (if ¬ y5 = x4 then (0 : Int32) else (1 : Int32)), .int l5])) (M1 := (H4, z)) (fun r K => ?_) ?_
        · skip
          refine ev_icmp rfl (fun (b97 : ¬ y5 = x4) => ?_) (fun (b97 : ¬ (¬ y5 = x4)) => ?_)
          · skip
            refine ev_run 1 (F' := (105, [some (.ref 19), some (.int x1), some (.ref 17), some (.int x3), some (.int x4), some (.int l5), some (.int l6)], [.int (0 : Int32), .int l5])) rfl ?_
            refine ev_forget (L' := [some (.ref 19), some (.int x1), some (.ref 17), some (.int x3), some (.int x4), none, some (.int l6)]) (show xleP _ [some (.ref 19), some (.int x1), some (.ref 17), some (.int x3), some (.int x4), some (.int l5), some (.int l6)] from ⟨rfl, ⟨rfl, ⟨rfl, ⟨rfl, ⟨rfl, ⟨rfl, trivial⟩⟩⟩⟩⟩⟩) rfl ?_
            exact ev_cast (show ((105, [some (.ref 19), some (.int x1), some (.ref 17), some (.int x3), some (.int x4), none, some (.int l6)], [.int (0 : Int32), .int l5]) : xF) = (105, [some (.ref 19), some (.int x1), some (.ref 17), some (.int x3), some (.int x4), none, some (.int l6)], [.int (if ¬ y5 = x4 then (0 : Int32) else (1 : Int32)), .int l5]) by first | (simp only [if_pos b97]; done) | rfl) rfl K
          · skip
            refine ev_run 2 (F' := (105, [some (.ref 19), some (.int x1), some (.ref 17), some (.int x3), some (.int x4), some (.int l5), some (.int l6)], [.int (1 : Int32), .int l5])) rfl ?_
            refine ev_forget (L' := [some (.ref 19), some (.int x1), some (.ref 17), some (.int x3), some (.int x4), none, some (.int l6)]) (show xleP _ [some (.ref 19), some (.int x1), some (.ref 17), some (.int x3), some (.int x4), some (.int l5), some (.int l6)] from ⟨rfl, ⟨rfl, ⟨rfl, ⟨rfl, ⟨rfl, ⟨rfl, trivial⟩⟩⟩⟩⟩⟩) rfl ?_
            exact ev_cast (show ((105, [some (.ref 19), some (.int x1), some (.ref 17), some (.int x3), some (.int x4), none, some (.int l6)], [.int (1 : Int32), .int l5]) : xF) = (105, [some (.ref 19), some (.int x1), some (.ref 17), some (.int x3), some (.int x4), none, some (.int l6)], [.int (if ¬ y5 = x4 then (0 : Int32) else (1 : Int32)), .int l5]) by first | (simp only [if_neg b97]; done) | rfl) rfl K
        refine go_step (fun _ => ev_run 4 (F' := (14, [some (.ref 19), some (.int x1), some (.ref 17), some (.int x3), some (.int x4), some (.int (l5 + (if ¬ y5 = x4 then (0 : Int32) else (1 : Int32)))), some (.int (l6 + (1 : Int32)))], [])) rfl) ?_
        exact ih (l5 + (if ¬ y5 = x4 then (0 : Int32) else (1 : Int32))) (l6 + (1 : Int32)) y1.1 (t_X5_change (l6 + x3) (t_X5_at l6 18 a18) 18 (t_X5_change l6 (t_X5_at (l6 + x3) 18 a18) 18 y1.2)) H4 (xfr_t (xfr_t (xfr_t fr rfl fH2) rfl fH3) rfl fH4) ((fH4 20 rfl).trans ((fH3 20 rfl).trans eH2_20)) eH4_21 _ h
theorem C_X6_unseenSwaps {S : Nat × (Nat → Int32)} {d : Nat} {H : List xE} {z : Bool × Nat × Nat} {c17_1 : Int32} {a18 : Nat → Int32} {a22 : Nat → Int32} {c20_1 : Int32} {a21 : Nat → Int32} {x1 : Int32} {x3 : Int32} (u_17 : H[17]? = some (.inr (4, [.ref 18, .int c17_1]))) (u_18 : H[18]? = some (.inl (0, 18, .inl a18))) (u_22 : H[22]? = some (.inl (0, 190, .inl a22))) (u_19 : H[19]? = some (.inr (5, [.ref 20, .ref 22]))) (u_20 : H[20]? = some (.inr (4, [.ref 21, .int c20_1]))) (u_21 : H[21]? = some (.inl (0, 18, .inl a21))) {x : (Int32 × Int32 × (Nat → Int32))} (h : q_X6_unseenSwaps x1 x3 c17_1 a18 a22 c20_1 a21 = some x) : ∃ H' : List xE, Cm S (d + 3) 66 [.ref 19, .int x1, .ref 17, .int x3] (H, z) (.inr (some (.int x.1)), (H', z)) ∧ H'[20]? = some (.inr (4, [.ref 21, .int x.2.1])) ∧ H'[21]? = some (.inl (0, 18, .inl x.2.2)) ∧ xfr [20, 21] H H' := by
  have G : Go S (d + 3) 66 (0, [some (.ref 19), some (.int x1), some (.ref 17), some (.int x3), none, none, none], []) (H, z) (fun _ _ => False) (fun r => ∃ H' : List xE, r = (.inr (some (.int x.1)), (H', z)) ∧ H'[20]? = some (.inr (4, [.ref 21, .int x.2.1])) ∧ H'[21]? = some (.inl (0, 18, .inl x.2.2)) ∧ xfr [20, 21] H H') := by
    unfold q_X6_unseenSwaps at h
    refine go_step (fun _ => ev_run 3 (F' := (3, [some (.ref 19), some (.int x1), some (.ref 17), some (.int x3), none, none, none], [.ref 17, .int x1, .ref 19])) rfl) ?_
    obtain ⟨y1, hy1, h⟩ := okb h
    refine go_step (F1 := (6, [some (.ref 19), some (.int x1), some (.ref 17), some (.int x3), none, none, none], [.int y1])) (M1 := (H, z)) (fun _ => ev_callV (x := (.invokevirtual 47, 3, 63, 5, 587, .null)) (as := [.int x1, .ref 17]) (rest := []) rfl rfl u_19 (C_X6_checkOf (S := S) (d := d) (z := z) (x1 := x1) u_17 u_18 u_22 u_19 (by decide) hy1) rfl) ?_
    refine go_step (fun _ => ev_run 5 (F' := (14, [some (.ref 19), some (.int x1), some (.ref 17), some (.int x3), some (.int y1), some (.int (0 : Int32)), some (.int (0 : Int32))], [])) rfl) ?_
    obtain ⟨y2, hy2, h⟩ := okb h
    obtain ⟨_, _, hr4, H3, rfl, rfl, eH3_20, eH3_21, fH3⟩ := go_nr (L_X6_unseenSwaps_L14 (S := S) (d := d) (z := z) (x1 := x1) (x3 := x3) (x4 := y1) u_17 u_18 u_22 u_19 10000 (0 : Int32) (0 : Int32) c20_1 a21 H xfr_refl u_20 u_21 _ hy2)
    refine go_step hr4 ?_
    refine go_step (fun _ => ev_run 1 (F' := (116, [none, none, none, none, none, some (.int y2.1), none], [.int y2.1])) rfl) ?_
    cases h
    exact Or.inr ⟨_, ev_ret rfl rfl rfl rfl, H3, rfl, eH3_20, eH3_21, (xfr_t xfr_refl rfl fH3)⟩
  obtain ⟨_, hE, H', rfl, hrest⟩ := go_end G
  exact ⟨H', hE, hrest⟩
def q_X6_countUnseen (x1 : Int32) (x2 : Int32) (c17_1 : Int32) (a18 : Nat → Int32) (a22 : Nat → Int32) (c20_1 : Int32) (a21 : Nat → Int32) : Option (Int32 × Int32 × (Nat → Int32)) := (if ¬ x2 = (115 : Int32) then (if ¬ x2 = (119 : Int32) then ((q_X6_unseenSwaps x1 (if ¬ x2 = (110 : Int32) then (2 : Int32) else (1 : Int32)) c17_1 a18 a22 c20_1 a21).bind (fun y1 => (some (y1.1, y1.2.1, y1.2.2)))) else ((q_X6_unseenChanges x1 (2 : Int32) c17_1 a18 a22 c20_1 a21).bind (fun y3 => (some (y3.1, y3.2.1, y3.2.2))))) else ((q_X6_unseenChanges x1 (1 : Int32) c17_1 a18 a22 c20_1 a21).bind (fun y5 => (some (y5.1, y5.2.1, y5.2.2)))))
theorem C_X6_countUnseen {S : Nat × (Nat → Int32)} {d : Nat} {H : List xE} {z : Bool × Nat × Nat} {c17_1 : Int32} {a18 : Nat → Int32} {a22 : Nat → Int32} {c20_1 : Int32} {a21 : Nat → Int32} {x1 : Int32} {x2 : Int32} (u_17 : H[17]? = some (.inr (4, [.ref 18, .int c17_1]))) (u_18 : H[18]? = some (.inl (0, 18, .inl a18))) (u_22 : H[22]? = some (.inl (0, 190, .inl a22))) (u_20 : H[20]? = some (.inr (4, [.ref 21, .int c20_1]))) (u_21 : H[21]? = some (.inl (0, 18, .inl a21))) (u_19 : H[19]? = some (.inr (5, [.ref 20, .ref 22]))) {x : (Int32 × Int32 × (Nat → Int32))} (h : q_X6_countUnseen x1 x2 c17_1 a18 a22 c20_1 a21 = some x) : ∃ H' : List xE, Cm S (d + 4) 64 [.ref 19, .int x1, .int x2, .ref 17] (H, z) (.inr (some (.int x.1)), (H', z)) ∧ H'[20]? = some (.inr (4, [.ref 21, .int x.2.1])) ∧ H'[21]? = some (.inl (0, 18, .inl x.2.2)) ∧ xfr [20, 21] H H' := by
  have G : Go S (d + 4) 64 (0, [some (.ref 19), some (.int x1), some (.int x2), some (.ref 17)], []) (H, z) (fun _ _ => False) (fun r => ∃ H' : List xE, r = (.inr (some (.int x.1)), (H', z)) ∧ H'[20]? = some (.inr (4, [.ref 21, .int x.2.1])) ∧ H'[21]? = some (.inl (0, 18, .inl x.2.2)) ∧ xfr [20, 21] H H') := by
    unfold q_X6_countUnseen at h
    refine go_step (fun _ => ev_run 2 (F' := (3, [some (.ref 19), some (.int x1), some (.int x2), some (.ref 17)], [.int (115 : Int32), .int x2])) rfl) ?_
    refine go_icmp rfl (fun (b3 : ¬ x2 = (115 : Int32)) => ?_) (fun (b3 : ¬ (¬ x2 = (115 : Int32))) => ?_)
    · have h := (if_pos b3).symm.trans h
      refine go_step (fun _ => ev_run 2 (F' := (17, [some (.ref 19), some (.int x1), some (.int x2), some (.ref 17)], [.int (119 : Int32), .int x2])) rfl) ?_
      refine go_icmp rfl (fun (b17 : ¬ x2 = (119 : Int32)) => ?_) (fun (b17 : ¬ (¬ x2 = (119 : Int32))) => ?_)
      · have h := (if_pos b17).symm.trans h
        refine go_step (fun _ => ev_run 5 (F' := (34, [some (.ref 19), some (.int x1), some (.int x2), some (.ref 17)], [.int (110 : Int32), .int x2, .ref 17, .int x1, .ref 19])) rfl) ?_
        refine go_step (F1 := (42, [none, none, none, none], [.int (if ¬ x2 = (110 : Int32) then (2 : Int32) else (1 : Int32)), .ref 17, .int x1, .ref 19])) (M1 := (H, z)) (fun r K => ?_) ?_
        · skip
          refine ev_icmp rfl (fun (b34 : ¬ x2 = (110 : Int32)) => ?_) (fun (b34 : ¬ (¬ x2 = (110 : Int32))) => ?_)
          · skip
            refine ev_run 1 (F' := (42, [some (.ref 19), some (.int x1), some (.int x2), some (.ref 17)], [.int (2 : Int32), .ref 17, .int x1, .ref 19])) rfl ?_
            refine ev_forget (L' := [none, none, none, none]) (show xleP _ [some (.ref 19), some (.int x1), some (.int x2), some (.ref 17)] from trivial) rfl ?_
            exact ev_cast (show ((42, [none, none, none, none], [.int (2 : Int32), .ref 17, .int x1, .ref 19]) : xF) = (42, [none, none, none, none], [.int (if ¬ x2 = (110 : Int32) then (2 : Int32) else (1 : Int32)), .ref 17, .int x1, .ref 19]) by first | (simp only [if_pos b34]; done) | rfl) rfl K
          · skip
            refine ev_run 2 (F' := (42, [some (.ref 19), some (.int x1), some (.int x2), some (.ref 17)], [.int (1 : Int32), .ref 17, .int x1, .ref 19])) rfl ?_
            refine ev_forget (L' := [none, none, none, none]) (show xleP _ [some (.ref 19), some (.int x1), some (.int x2), some (.ref 17)] from trivial) rfl ?_
            exact ev_cast (show ((42, [none, none, none, none], [.int (1 : Int32), .ref 17, .int x1, .ref 19]) : xF) = (42, [none, none, none, none], [.int (if ¬ x2 = (110 : Int32) then (2 : Int32) else (1 : Int32)), .ref 17, .int x1, .ref 19]) by first | (simp only [if_neg b34]; done) | rfl) rfl K
        obtain ⟨y1, hy1, h⟩ := okb h
        obtain ⟨H2, hCH2, eH2_20, eH2_21, fH2⟩ := C_X6_unseenSwaps (S := S) (d := d) (z := z) (x1 := x1) (x3 := (if ¬ x2 = (110 : Int32) then (2 : Int32) else (1 : Int32))) u_17 u_18 u_22 u_19 u_20 u_21 hy1
        refine go_step (F1 := (45, [none, none, none, none], [.int y1.1])) (M1 := (H2, z)) (fun _ => ev_callV (x := (.invokevirtual 44, 3, 66, 5, 615, .null)) (as := [.int x1, .ref 17, .int (if ¬ x2 = (110 : Int32) then (2 : Int32) else (1 : Int32))]) (rest := []) rfl rfl u_19 hCH2 rfl) ?_
        cases h
        exact Or.inr ⟨_, ev_ret rfl rfl rfl rfl, H2, rfl, eH2_20, eH2_21, (xfr_t xfr_refl rfl fH2)⟩
      · have h := (if_neg b17).symm.trans h
        refine go_step (fun _ => ev_run 4 (F' := (24, [some (.ref 19), some (.int x1), some (.int x2), some (.ref 17)], [.int (2 : Int32), .ref 17, .int x1, .ref 19])) rfl) ?_
        obtain ⟨y3, hy3, h⟩ := okb h
        obtain ⟨H4, hCH4, eH4_20, eH4_21, fH4⟩ := C_X6_unseenChanges (S := S) (d := d) (z := z) (x1 := x1) (x3 := (2 : Int32)) u_17 u_18 u_22 u_19 u_20 u_21 hy3
        refine go_step (F1 := (27, [some (.ref 19), some (.int x1), some (.int x2), some (.ref 17)], [.int y3.1])) (M1 := (H4, z)) (fun _ => ev_callV (x := (.invokevirtual 40, 3, 65, 5, 583, .null)) (as := [.int x1, .ref 17, .int (2 : Int32)]) (rest := []) rfl rfl u_19 hCH4 rfl) ?_
        cases h
        exact Or.inr ⟨_, ev_ret rfl rfl rfl rfl, H4, rfl, eH4_20, eH4_21, (xfr_t xfr_refl rfl fH4)⟩
    · have h := (if_neg b3).symm.trans h
      refine go_step (fun _ => ev_run 4 (F' := (10, [some (.ref 19), some (.int x1), some (.int x2), some (.ref 17)], [.int (1 : Int32), .ref 17, .int x1, .ref 19])) rfl) ?_
      obtain ⟨y5, hy5, h⟩ := okb h
      obtain ⟨H6, hCH6, eH6_20, eH6_21, fH6⟩ := C_X6_unseenChanges (S := S) (d := d) (z := z) (x1 := x1) (x3 := (1 : Int32)) u_17 u_18 u_22 u_19 u_20 u_21 hy5
      refine go_step (F1 := (13, [some (.ref 19), some (.int x1), some (.int x2), some (.ref 17)], [.int y5.1])) (M1 := (H6, z)) (fun _ => ev_callV (x := (.invokevirtual 40, 3, 65, 5, 583, .null)) (as := [.int x1, .ref 17, .int (1 : Int32)]) (rest := []) rfl rfl u_19 hCH6 rfl) ?_
      cases h
      exact Or.inr ⟨_, ev_ret rfl rfl rfl rfl, H6, rfl, eH6_20, eH6_21, (xfr_t xfr_refl rfl fH6)⟩
  obtain ⟨_, hE, H', rfl, hrest⟩ := go_end G
  exact ⟨H', hE, hrest⟩
def q_X7_findRests_L5 (x2 : Int32) (ch1_0 : Int32) (ch1_1 : Int32) : Nat → Int32 → Int32 → (Nat → Int32) → Option (Int32 × Int32 × (Nat → Int32))
  | 0, _, _, _ => none
  | n + 1, l3, l4, a16 => (if x2 ≤ l4 then (some (l3, l4, a16)) else (if (nI 48) ≤ l4 then (some (l3, l4, a16)) else (if xin l4 48 = true then (q_X7_findRests_L5 x2 ch1_0 ch1_1 n (t_X1_timesZ l3 ch1_0 ch1_1) (l4 + (1 : Int32)) (upd a16 l4.toNatClampNeg l3)) else none)))
def q_X7_findRests (x2 : Int32) (a16 : Nat → Int32) (ch1_0 : Int32) (ch1_1 : Int32) : Option (Nat → Int32) := ((q_X7_findRests_L5 x2 ch1_0 ch1_1 10000 (1 : Int32) (0 : Int32) a16).bind (fun y1 => (some y1.2.2)))
theorem L_X7_findRests_L5 {S : Nat × (Nat → Int32)} {d : Nat} {z : Bool × Nat × Nat} {h1 : Nat} {ch1_2 : Int32} {ch1_3 : Int32} {ch1_4 : Int32} {ch1_5 : Int32} {x2 : Int32} {ch1_0 : Int32} {ch1_1 : Int32} {H0 : List xE} (u_15 : H0[15]? = some (.inr (6, [.ref 16]))) (u_h1 : H0[h1]? = some (.inr (1, [.int ch1_0, .int ch1_1, .int ch1_2, .int ch1_3, .int ch1_4, .int ch1_5]))) (ne_16_h1 : 16 ≠ h1) : ∀ (n : Nat) (l3 : Int32) (l4 : Int32) (a16 : Nat → Int32) (H : List xE), xfr [16] H0 H → H[16]? = some (.inl (0, 48, .inl a16)) → ∀ x, q_X7_findRests_L5 x2 ch1_0 ch1_1 n l3 l4 a16 = some x → Go S (d + 1) 74 (5, [some (.ref 15), some (.ref h1), some (.int x2), some (.int l3), some (.int l4)], []) (H, z) (fun F' M' => ∃ H' : List xE, F' = (41, [none, none, none, none, none], []) ∧ M' = (H', z) ∧ H'[16]? = some (.inl (0, 48, .inl x.2.2)) ∧ xfr [16] H0 H') (fun _ => False) := by
  intro n
  induction n with
  | zero =>
    intro l3 l4 a16 H fr e_16 x h
    unfold q_X7_findRests_L5 at h
    cases h
  | succ n ih =>
    intro l3 l4 a16 H fr e_16 x h
    unfold q_X7_findRests_L5 at h
    refine go_step (fun _ => ev_run 2 (F' := (8, [some (.ref 15), some (.ref h1), some (.int x2), some (.int l3), some (.int l4)], [.int x2, .int l4])) rfl) ?_
    refine go_icmp rfl (fun (b8 : x2 ≤ l4) => ?_) (fun (b8 : ¬ (x2 ≤ l4)) => ?_)
    · have h := (if_pos b8).symm.trans h
      refine go_step (fun _ => ev_forget (L' := [none, none, none, none, none]) (show xleP _ [some (.ref 15), some (.ref h1), some (.int x2), some (.int l3), some (.int l4)] from trivial) rfl) ?_
      cases h
      exact Or.inl ⟨_, _, fun r hr => hr, H, rfl, rfl, e_16, fr⟩
    · have h := (if_neg b8).symm.trans h
      refine go_step (fun _ => ev_run 2 (F' := (14, [some (.ref 15), some (.ref h1), some (.int x2), some (.int l3), some (.int l4)], [.ref 15, .int l4])) rfl) ?_
      refine go_step (fun _ => ev_getf rfl ((fr 15 rfl).trans u_15) rfl) ?_
      refine go_step (fun _ => ev_alen rfl e_16 rfl) ?_
      refine go_icmp rfl (fun (b18 : (nI 48) ≤ l4) => ?_) (fun (b18 : ¬ ((nI 48) ≤ l4)) => ?_)
      · have h := (if_pos b18).symm.trans h
        refine go_step (fun _ => ev_forget (L' := [none, none, none, none, none]) (show xleP _ [some (.ref 15), some (.ref h1), some (.int x2), some (.int l3), some (.int l4)] from trivial) rfl) ?_
        cases h
        exact Or.inl ⟨_, _, fun r hr => hr, H, rfl, rfl, e_16, fr⟩
      · have h := (if_neg b18).symm.trans h
        refine go_step (fun _ => ev_run 1 (F' := (22, [some (.ref 15), some (.ref h1), some (.int x2), some (.int l3), some (.int l4)], [.ref 15])) rfl) ?_
        refine go_step (fun _ => ev_getf rfl ((fr 15 rfl).trans u_15) rfl) ?_
        refine go_step (fun _ => ev_run 2 (F' := (28, [some (.ref 15), some (.ref h1), some (.int x2), some (.int l3), some (.int l4)], [.int l3, .int l4, .ref 16])) rfl) ?_
        obtain ⟨g28, h⟩ := okg h
        refine go_iast rfl e_16 g28 (fun H1 (eH1 : H1[16]? = some (.inl (0, 48, .inl (upd a16 l4.toNatClampNeg l3)))) fH1 => ?_)
        refine go_step (fun _ => ev_run 2 (F' := (31, [some (.ref 15), some (.ref h1), some (.int x2), some (.int l3), some (.int l4)], [.int l3, .ref h1])) rfl) ?_
        refine go_step (F1 := (34, [some (.ref 15), some (.ref h1), some (.int x2), some (.int l3), some (.int l4)], [.int (t_X1_timesZ l3 ch1_0 ch1_1)])) (M1 := (H1, z)) (fun _ => ev_callV (x := (.invokevirtual 23, 3, 19, 1, 977, .null)) (as := [.int l3]) (rest := []) rfl rfl ((fH1 h1 (xo_c ne_16_h1 rfl)).trans ((fr h1 (xo_c ne_16_h1 rfl)).trans u_h1)) (C_X1_timesZ (S := S) (d := d) (z := z) (x1 := l3) ((fH1 h1 (xo_c ne_16_h1 rfl)).trans ((fr h1 (xo_c ne_16_h1 rfl)).trans u_h1))) rfl) ?_
        refine go_step (fun _ => ev_run 3 (F' := (5, [some (.ref 15), some (.ref h1), some (.int x2), some (.int (t_X1_timesZ l3 ch1_0 ch1_1)), some (.int (l4 + (1 : Int32)))], [])) rfl) ?_
        exact ih (t_X1_timesZ l3 ch1_0 ch1_1) (l4 + (1 : Int32)) (upd a16 l4.toNatClampNeg l3) H1 (xfr_t fr rfl fH1) eH1 _ h
theorem C_X7_findRests {S : Nat × (Nat → Int32)} {d : Nat} {H : List xE} {z : Bool × Nat × Nat} {h1 : Nat} {a16 : Nat → Int32} {ch1_0 : Int32} {ch1_1 : Int32} {ch1_2 : Int32} {ch1_3 : Int32} {ch1_4 : Int32} {ch1_5 : Int32} {x2 : Int32} (u_15 : H[15]? = some (.inr (6, [.ref 16]))) (u_16 : H[16]? = some (.inl (0, 48, .inl a16))) (u_h1 : H[h1]? = some (.inr (1, [.int ch1_0, .int ch1_1, .int ch1_2, .int ch1_3, .int ch1_4, .int ch1_5]))) (ne_16_h1 : 16 ≠ h1) {x : Nat → Int32} (h : q_X7_findRests x2 a16 ch1_0 ch1_1 = some x) : ∃ H' : List xE, Cm S (d + 1) 74 [.ref 15, .ref h1, .int x2] (H, z) (.inr none, (H', z)) ∧ H'[16]? = some (.inl (0, 48, .inl x)) ∧ xfr [16] H H' := by
  have G : Go S (d + 1) 74 (0, [some (.ref 15), some (.ref h1), some (.int x2), none, none], []) (H, z) (fun _ _ => False) (fun r => ∃ H' : List xE, r = (.inr none, (H', z)) ∧ H'[16]? = some (.inl (0, 48, .inl x)) ∧ xfr [16] H H') := by
    unfold q_X7_findRests at h
    refine go_step (fun _ => ev_run 4 (F' := (5, [some (.ref 15), some (.ref h1), some (.int x2), some (.int (1 : Int32)), some (.int (0 : Int32))], [])) rfl) ?_
    obtain ⟨y1, hy1, h⟩ := okb h
    obtain ⟨_, _, hr3, H2, rfl, rfl, eH2_16, fH2⟩ := go_nr (L_X7_findRests_L5 (S := S) (d := d) (z := z) (x2 := x2) u_15 u_h1 ne_16_h1 10000 (1 : Int32) (0 : Int32) a16 H xfr_refl u_16 _ hy1)
    refine go_step hr3 ?_
    cases h
    exact Or.inr ⟨_, ev_ret rfl rfl rfl rfl, H2, rfl, eH2_16, (xfr_t xfr_refl rfl fH2)⟩
  obtain ⟨_, hE, H', rfl, hrest⟩ := go_end G
  exact ⟨H', hE, hrest⟩
def q_X7_oneBelow_L2 (x1 : Int32) (x2 : Int32) (a16 : Nat → Int32) : Nat → Int32 → Option (Int32 ⊕ Int64)
  | 0, _ => none
  | n + 1, l3 => (if x1 ≤ l3 then (some (Sum.inl l3)) else (if (nI 48) ≤ l3 then (some (Sum.inl l3)) else (if xin l3 48 = true then (if ¬ (a16 l3.toNatClampNeg) = x2 then (q_X7_oneBelow_L2 x1 x2 a16 n (l3 + (1 : Int32))) else (some (Sum.inr ((1 : Int64) <<< (l3.toInt64 &&& (63 : Int64)))))) else none)))
def q_X7_oneBelow (x1 : Int32) (x2 : Int32) (a16 : Nat → Int32) : Option Int64 := (xlp (q_X7_oneBelow_L2 x1 x2 a16 10000 (1 : Int32)) (fun y1 => (some (-1 : Int64))) (fun y1 => (some y1)))
theorem L_X7_oneBelow_L2 {S : Nat × (Nat → Int32)} {d : Nat} {z : Bool × Nat × Nat} {x1 : Int32} {x2 : Int32} {a16 : Nat → Int32} {H : List xE} (u_15 : H[15]? = some (.inr (6, [.ref 16]))) (u_16 : H[16]? = some (.inl (0, 48, .inl a16))) : ∀ (n : Nat) (l3 : Int32) x, q_X7_oneBelow_L2 x1 x2 a16 n l3 = some x → Go S d 76 (2, [some (.ref 15), some (.int x1), some (.int x2), some (.int l3)], []) (H, z) (fun F' M' => ∃ (m : Int32), x = Sum.inl m ∧ F' = (36, [none, none, none, none], []) ∧ M' = (H, z)) (fun r => ∃ (c : Int64), x = Sum.inr c ∧ r = (.inr (some (.long c)), (H, z))) := by
  intro n
  induction n with
  | zero =>
    intro l3 x h
    unfold q_X7_oneBelow_L2 at h
    cases h
  | succ n ih =>
    intro l3 x h
    unfold q_X7_oneBelow_L2 at h
    refine go_step (fun _ => ev_run 2 (F' := (4, [some (.ref 15), some (.int x1), some (.int x2), some (.int l3)], [.int x1, .int l3])) rfl) ?_
    refine go_icmp rfl (fun (b4 : x1 ≤ l3) => ?_) (fun (b4 : ¬ (x1 ≤ l3)) => ?_)
    · have h := (if_pos b4).symm.trans h
      refine go_step (fun _ => ev_forget (L' := [none, none, none, none]) (show xleP _ [some (.ref 15), some (.int x1), some (.int x2), some (.int l3)] from trivial) rfl) ?_
      cases h
      exact Or.inl ⟨_, _, fun r hr => hr, _, rfl, rfl, rfl⟩
    · have h := (if_neg b4).symm.trans h
      refine go_step (fun _ => ev_run 2 (F' := (9, [some (.ref 15), some (.int x1), some (.int x2), some (.int l3)], [.ref 15, .int l3])) rfl) ?_
      refine go_step (fun _ => ev_getf rfl u_15 rfl) ?_
      refine go_step (fun _ => ev_alen rfl u_16 rfl) ?_
      refine go_icmp rfl (fun (b13 : (nI 48) ≤ l3) => ?_) (fun (b13 : ¬ ((nI 48) ≤ l3)) => ?_)
      · have h := (if_pos b13).symm.trans h
        refine go_step (fun _ => ev_forget (L' := [none, none, none, none]) (show xleP _ [some (.ref 15), some (.int x1), some (.int x2), some (.int l3)] from trivial) rfl) ?_
        cases h
        exact Or.inl ⟨_, _, fun r hr => hr, _, rfl, rfl, rfl⟩
      · have h := (if_neg b13).symm.trans h
        refine go_step (fun _ => ev_run 1 (F' := (17, [some (.ref 15), some (.int x1), some (.int x2), some (.int l3)], [.ref 15])) rfl) ?_
        refine go_step (fun _ => ev_getf rfl u_15 rfl) ?_
        refine go_step (fun _ => ev_run 1 (F' := (21, [some (.ref 15), some (.int x1), some (.int x2), some (.int l3)], [.int l3, .ref 16])) rfl) ?_
        obtain ⟨g21, h⟩ := okg h
        refine go_step (fun _ => ev_iald rfl u_16 g21) ?_
        refine go_step (fun _ => ev_run 1 (F' := (23, [some (.ref 15), some (.int x1), some (.int x2), some (.int l3)], [.int x2, .int (a16 l3.toNatClampNeg)])) rfl) ?_
        refine go_icmp rfl (fun (b23 : ¬ (a16 l3.toNatClampNeg) = x2) => ?_) (fun (b23 : ¬ (¬ (a16 l3.toNatClampNeg) = x2)) => ?_)
        · have h := (if_pos b23).symm.trans h
          refine go_step (fun _ => ev_run 2 (F' := (2, [some (.ref 15), some (.int x1), some (.int x2), some (.int (l3 + (1 : Int32)))], [])) rfl) ?_
          exact ih (l3 + (1 : Int32)) _ h
        · have h := (if_neg b23).symm.trans h
          refine go_step (fun _ => ev_run 3 (F' := (29, [some (.ref 15), some (.int x1), some (.int x2), some (.int l3)], [.long ((1 : Int64) <<< (l3.toInt64 &&& (63 : Int64)))])) rfl) ?_
          cases h
          exact Or.inr ⟨_, ev_ret rfl rfl rfl rfl, _, rfl, rfl⟩
theorem C_X7_oneBelow {S : Nat × (Nat → Int32)} {d : Nat} {H : List xE} {z : Bool × Nat × Nat} {a16 : Nat → Int32} {x1 : Int32} {x2 : Int32} (u_15 : H[15]? = some (.inr (6, [.ref 16]))) (u_16 : H[16]? = some (.inl (0, 48, .inl a16))) {x : Int64} (h : q_X7_oneBelow x1 x2 a16 = some x) : Cm S d 76 [.ref 15, .int x1, .int x2] (H, z) (.inr (some (.long x)), (H, z)) := by
  have G : Go S d 76 (0, [some (.ref 15), some (.int x1), some (.int x2), none], []) (H, z) (fun _ _ => False) (fun r => r = (.inr (some (.long x)), (H, z))) := by
    unfold q_X7_oneBelow at h
    refine go_step (fun _ => ev_run 2 (F' := (2, [some (.ref 15), some (.int x1), some (.int x2), some (.int (1 : Int32))], [])) rfl) ?_
    rcases okl h with ⟨y1, hy1, h⟩ | ⟨y1, hy1, h⟩
    · rcases L_X7_oneBelow_L2 (S := S) (d := d) (z := z) (x1 := x1) (x2 := x2) u_15 u_16 10000 (1 : Int32) _ hy1 with ⟨_, _, hr2, _, hx3, rfl, rfl⟩ | ⟨_, _, _, hx3, _⟩
      · cases hx3
        refine go_step hr2 ?_
        refine go_step (fun _ => ev_run 1 (F' := (39, [none, none, none, none], [.long (-1 : Int64)])) rfl) ?_
        cases h
        exact Or.inr ⟨_, ev_ret rfl rfl rfl rfl, rfl⟩
      · cases hx3
    · rcases L_X7_oneBelow_L2 (S := S) (d := d) (z := z) (x1 := x1) (x2 := x2) u_15 u_16 10000 (1 : Int32) _ hy1 with ⟨_, _, _, _, hx3, _⟩ | ⟨_, hE5, _, hx3, rfl⟩
      · cases hx3
      · cases hx3
        cases h
        exact Or.inr ⟨_, hE5, rfl⟩
  obtain ⟨_, hE, rfl⟩ := go_end G
  exact hE
def q_X7_twoBelow_L2 (x1 : Int32) (x2 : Int32) (a16 : Nat → Int32) : Nat → Int32 → Option (Int32 ⊕ Int64)
  | 0, _ => none
  | n + 1, l3 => (if x1 ≤ l3 then (some (Sum.inl l3)) else (if (nI 48) ≤ l3 then (some (Sum.inl l3)) else (if xin l3 48 = true then ((q_X7_oneBelow l3 (x2 ^^^ (a16 l3.toNatClampNeg)) a16).bind (fun y1 => (if (lg_cmp y1 (0 : Int64)) < (0 : Int32) then (q_X7_twoBelow_L2 x1 x2 a16 n (l3 + (1 : Int32))) else (some (Sum.inr (((1 : Int64) <<< (l3.toInt64 &&& (63 : Int64))) ||| y1)))))) else none)))
def q_X7_twoBelow (x1 : Int32) (x2 : Int32) (a16 : Nat → Int32) : Option Int64 := (xlp (q_X7_twoBelow_L2 x1 x2 a16 10000 (2 : Int32)) (fun y1 => (some (-1 : Int64))) (fun y1 => (some y1)))
theorem L_X7_twoBelow_L2 {S : Nat × (Nat → Int32)} {d : Nat} {z : Bool × Nat × Nat} {x1 : Int32} {x2 : Int32} {a16 : Nat → Int32} {H : List xE} (u_15 : H[15]? = some (.inr (6, [.ref 16]))) (u_16 : H[16]? = some (.inl (0, 48, .inl a16))) : ∀ (n : Nat) (l3 : Int32) x, q_X7_twoBelow_L2 x1 x2 a16 n l3 = some x → Go S (d + 1) 77 (2, [some (.ref 15), some (.int x1), some (.int x2), some (.int l3), none, none], []) (H, z) (fun F' M' => ∃ (m : Int32), x = Sum.inl m ∧ F' = (51, [none, none, none, none, none, none], []) ∧ M' = (H, z)) (fun r => ∃ (c : Int64), x = Sum.inr c ∧ r = (.inr (some (.long c)), (H, z))) := by
  intro n
  induction n with
  | zero =>
    intro l3 x h
    unfold q_X7_twoBelow_L2 at h
    cases h
  | succ n ih =>
    intro l3 x h
    unfold q_X7_twoBelow_L2 at h
    refine go_step (fun _ => ev_run 2 (F' := (4, [some (.ref 15), some (.int x1), some (.int x2), some (.int l3), none, none], [.int x1, .int l3])) rfl) ?_
    refine go_icmp rfl (fun (b4 : x1 ≤ l3) => ?_) (fun (b4 : ¬ (x1 ≤ l3)) => ?_)
    · have h := (if_pos b4).symm.trans h
      refine go_step (fun _ => ev_forget (L' := [none, none, none, none, none, none]) (show xleP _ [some (.ref 15), some (.int x1), some (.int x2), some (.int l3), none, none] from trivial) rfl) ?_
      cases h
      exact Or.inl ⟨_, _, fun r hr => hr, _, rfl, rfl, rfl⟩
    · have h := (if_neg b4).symm.trans h
      refine go_step (fun _ => ev_run 2 (F' := (9, [some (.ref 15), some (.int x1), some (.int x2), some (.int l3), none, none], [.ref 15, .int l3])) rfl) ?_
      refine go_step (fun _ => ev_getf rfl u_15 rfl) ?_
      refine go_step (fun _ => ev_alen rfl u_16 rfl) ?_
      refine go_icmp rfl (fun (b13 : (nI 48) ≤ l3) => ?_) (fun (b13 : ¬ ((nI 48) ≤ l3)) => ?_)
      · have h := (if_pos b13).symm.trans h
        refine go_step (fun _ => ev_forget (L' := [none, none, none, none, none, none]) (show xleP _ [some (.ref 15), some (.int x1), some (.int x2), some (.int l3), none, none] from trivial) rfl) ?_
        cases h
        exact Or.inl ⟨_, _, fun r hr => hr, _, rfl, rfl, rfl⟩
      · have h := (if_neg b13).symm.trans h
        refine go_step (fun _ => ev_run 4 (F' := (20, [some (.ref 15), some (.int x1), some (.int x2), some (.int l3), none, none], [.ref 15, .int x2, .int l3, .ref 15])) rfl) ?_
        refine go_step (fun _ => ev_getf rfl u_15 rfl) ?_
        refine go_step (fun _ => ev_run 1 (F' := (24, [some (.ref 15), some (.int x1), some (.int x2), some (.int l3), none, none], [.int l3, .ref 16, .int x2, .int l3, .ref 15])) rfl) ?_
        obtain ⟨g24, h⟩ := okg h
        refine go_step (fun _ => ev_iald rfl u_16 g24) ?_
        refine go_step (fun _ => ev_run 1 (F' := (26, [some (.ref 15), some (.int x1), some (.int x2), some (.int l3), none, none], [.int (x2 ^^^ (a16 l3.toNatClampNeg)), .int l3, .ref 15])) rfl) ?_
        obtain ⟨y1, hy1, h⟩ := okb h
        refine go_step (F1 := (29, [some (.ref 15), some (.int x1), some (.int x2), some (.int l3), none, none], [.long y1])) (M1 := (H, z)) (fun _ => ev_callV (x := (.invokevirtual 29, 3, 76, 6, 982, .null)) (as := [.int l3, .int (x2 ^^^ (a16 l3.toNatClampNeg))]) (rest := []) rfl rfl u_15 (C_X7_oneBelow (S := S) (d := d) (z := z) (x1 := l3) (x2 := (x2 ^^^ (a16 l3.toNatClampNeg))) u_15 u_16 hy1) rfl) ?_
        refine go_step (fun _ => ev_run 4 (F' := (35, [some (.ref 15), some (.int x1), some (.int x2), some (.int l3), some (.long y1), none], [.int (lg_cmp y1 (0 : Int64))])) rfl) ?_
        refine go_if rfl (fun (b35 : (lg_cmp y1 (0 : Int64)) < (0 : Int32)) => ?_) (fun (b35 : ¬ ((lg_cmp y1 (0 : Int64)) < (0 : Int32))) => ?_)
        · have h := (if_pos b35).symm.trans h
          refine go_step (fun _ => ev_run 2 (F' := (2, [some (.ref 15), some (.int x1), some (.int x2), some (.int (l3 + (1 : Int32))), some (.long y1), none], [])) rfl) ?_
          refine go_step (fun _ => ev_forget (L' := [some (.ref 15), some (.int x1), some (.int x2), some (.int (l3 + (1 : Int32))), none, none]) (show xleP _ [some (.ref 15), some (.int x1), some (.int x2), some (.int (l3 + (1 : Int32))), some (.long y1), none] from ⟨rfl, ⟨rfl, ⟨rfl, ⟨rfl, trivial⟩⟩⟩⟩) rfl) ?_
          exact ih (l3 + (1 : Int32)) _ h
        · have h := (if_neg b35).symm.trans h
          refine go_step (fun _ => ev_run 5 (F' := (44, [some (.ref 15), some (.int x1), some (.int x2), some (.int l3), some (.long y1), none], [.long (((1 : Int64) <<< (l3.toInt64 &&& (63 : Int64))) ||| y1)])) rfl) ?_
          cases h
          exact Or.inr ⟨_, ev_ret rfl rfl rfl rfl, _, rfl, rfl⟩
theorem C_X7_twoBelow {S : Nat × (Nat → Int32)} {d : Nat} {H : List xE} {z : Bool × Nat × Nat} {a16 : Nat → Int32} {x1 : Int32} {x2 : Int32} (u_15 : H[15]? = some (.inr (6, [.ref 16]))) (u_16 : H[16]? = some (.inl (0, 48, .inl a16))) {x : Int64} (h : q_X7_twoBelow x1 x2 a16 = some x) : Cm S (d + 1) 77 [.ref 15, .int x1, .int x2] (H, z) (.inr (some (.long x)), (H, z)) := by
  have G : Go S (d + 1) 77 (0, [some (.ref 15), some (.int x1), some (.int x2), none, none, none], []) (H, z) (fun _ _ => False) (fun r => r = (.inr (some (.long x)), (H, z))) := by
    unfold q_X7_twoBelow at h
    refine go_step (fun _ => ev_run 2 (F' := (2, [some (.ref 15), some (.int x1), some (.int x2), some (.int (2 : Int32)), none, none], [])) rfl) ?_
    rcases okl h with ⟨y1, hy1, h⟩ | ⟨y1, hy1, h⟩
    · rcases L_X7_twoBelow_L2 (S := S) (d := d) (z := z) (x1 := x1) (x2 := x2) u_15 u_16 10000 (2 : Int32) _ hy1 with ⟨_, _, hr2, _, hx3, rfl, rfl⟩ | ⟨_, _, _, hx3, _⟩
      · cases hx3
        refine go_step hr2 ?_
        refine go_step (fun _ => ev_run 1 (F' := (54, [none, none, none, none, none, none], [.long (-1 : Int64)])) rfl) ?_
        cases h
        exact Or.inr ⟨_, ev_ret rfl rfl rfl rfl, rfl⟩
      · cases hx3
    · rcases L_X7_twoBelow_L2 (S := S) (d := d) (z := z) (x1 := x1) (x2 := x2) u_15 u_16 10000 (2 : Int32) _ hy1 with ⟨_, _, _, _, hx3, _⟩ | ⟨_, hE5, _, hx3, rfl⟩
      · cases hx3
      · cases hx3
        cases h
        exact Or.inr ⟨_, hE5, rfl⟩
  obtain ⟨_, hE, rfl⟩ := go_end G
  exact hE
def q_X7_leastWithin_L2 (x1 : Int32) (x2 : Int32) (a16 : Nat → Int32) : Nat → Int32 → Option (Int32 ⊕ Int64)
  | 0, _ => none
  | n + 1, l3 => (if x2 ≤ l3 then (some (Sum.inl l3)) else (if (nI 48) ≤ l3 then (some (Sum.inl l3)) else (if xin l3 48 = true then (if ¬ x1 = (2 : Int32) then (if ¬ x1 = (3 : Int32) then ((q_X7_twoBelow l3 ((a16 l3.toNatClampNeg) ^^^ (1 : Int32)) a16).bind (fun y1 => (if (lg_cmp y1 (0 : Int64)) < (0 : Int32) then (q_X7_leastWithin_L2 x1 x2 a16 n (l3 + (1 : Int32))) else (some (Sum.inr ((((1 : Int64) <<< (l3.toInt64 &&& (63 : Int64))) ||| y1) ||| (1 : Int64))))))) else ((q_X7_oneBelow l3 ((a16 l3.toNatClampNeg) ^^^ (1 : Int32)) a16).bind (fun y2 => (if (lg_cmp y2 (0 : Int64)) < (0 : Int32) then (q_X7_leastWithin_L2 x1 x2 a16 n (l3 + (1 : Int32))) else (some (Sum.inr ((((1 : Int64) <<< (l3.toInt64 &&& (63 : Int64))) ||| y2) ||| (1 : Int64)))))))) else (if (lg_cmp ((if ¬ ((a16 l3.toNatClampNeg) ^^^ (1 : Int32)) = (0 : Int32) then (-1 : Int32) else (0 : Int32)).toInt64) (0 : Int64)) < (0 : Int32) then (q_X7_leastWithin_L2 x1 x2 a16 n (l3 + (1 : Int32))) else (some (Sum.inr ((((1 : Int64) <<< (l3.toInt64 &&& (63 : Int64))) ||| ((if ¬ ((a16 l3.toNatClampNeg) ^^^ (1 : Int32)) = (0 : Int32) then (-1 : Int32) else (0 : Int32)).toInt64)) ||| (1 : Int64)))))) else none)))
def q_X7_leastWithin (x1 : Int32) (x2 : Int32) (a16 : Nat → Int32) : Option Int64 := (xlp (q_X7_leastWithin_L2 x1 x2 a16 10000 (1 : Int32)) (fun y1 => (some (0 : Int64))) (fun y1 => (some y1)))
theorem L_X7_leastWithin_L2 {S : Nat × (Nat → Int32)} {d : Nat} {z : Bool × Nat × Nat} {x1 : Int32} {x2 : Int32} {a16 : Nat → Int32} {H : List xE} (u_15 : H[15]? = some (.inr (6, [.ref 16]))) (u_16 : H[16]? = some (.inl (0, 48, .inl a16))) : ∀ (n : Nat) (l3 : Int32) x, q_X7_leastWithin_L2 x1 x2 a16 n l3 = some x → Go S (d + 2) 75 (2, [some (.ref 15), some (.int x1), some (.int x2), some (.int l3), none, none, none], []) (H, z) (fun F' M' => ∃ (m : Int32), x = Sum.inl m ∧ F' = (91, [none, none, none, none, none, none, none], []) ∧ M' = (H, z)) (fun r => ∃ (c : Int64), x = Sum.inr c ∧ r = (.inr (some (.long c)), (H, z))) := by
  intro n
  induction n with
  | zero =>
    intro l3 x h
    unfold q_X7_leastWithin_L2 at h
    cases h
  | succ n ih =>
    intro l3 x h
    unfold q_X7_leastWithin_L2 at h
    refine go_step (fun _ => ev_run 2 (F' := (4, [some (.ref 15), some (.int x1), some (.int x2), some (.int l3), none, none, none], [.int x2, .int l3])) rfl) ?_
    refine go_icmp rfl (fun (b4 : x2 ≤ l3) => ?_) (fun (b4 : ¬ (x2 ≤ l3)) => ?_)
    · have h := (if_pos b4).symm.trans h
      refine go_step (fun _ => ev_forget (L' := [none, none, none, none, none, none, none]) (show xleP _ [some (.ref 15), some (.int x1), some (.int x2), some (.int l3), none, none, none] from trivial) rfl) ?_
      cases h
      exact Or.inl ⟨_, _, fun r hr => hr, _, rfl, rfl, rfl⟩
    · have h := (if_neg b4).symm.trans h
      refine go_step (fun _ => ev_run 2 (F' := (9, [some (.ref 15), some (.int x1), some (.int x2), some (.int l3), none, none, none], [.ref 15, .int l3])) rfl) ?_
      refine go_step (fun _ => ev_getf rfl u_15 rfl) ?_
      refine go_step (fun _ => ev_alen rfl u_16 rfl) ?_
      refine go_icmp rfl (fun (b13 : (nI 48) ≤ l3) => ?_) (fun (b13 : ¬ ((nI 48) ≤ l3)) => ?_)
      · have h := (if_pos b13).symm.trans h
        refine go_step (fun _ => ev_forget (L' := [none, none, none, none, none, none, none]) (show xleP _ [some (.ref 15), some (.int x1), some (.int x2), some (.int l3), none, none, none] from trivial) rfl) ?_
        cases h
        exact Or.inl ⟨_, _, fun r hr => hr, _, rfl, rfl, rfl⟩
      · have h := (if_neg b13).symm.trans h
        refine go_step (fun _ => ev_run 1 (F' := (17, [some (.ref 15), some (.int x1), some (.int x2), some (.int l3), none, none, none], [.ref 15])) rfl) ?_
        refine go_step (fun _ => ev_getf rfl u_15 rfl) ?_
        refine go_step (fun _ => ev_run 1 (F' := (21, [some (.ref 15), some (.int x1), some (.int x2), some (.int l3), none, none, none], [.int l3, .ref 16])) rfl) ?_
        obtain ⟨g21, h⟩ := okg h
        refine go_step (fun _ => ev_iald rfl u_16 g21) ?_
        refine go_step (fun _ => ev_run 5 (F' := (28, [some (.ref 15), some (.int x1), some (.int x2), some (.int l3), some (.int ((a16 l3.toNatClampNeg) ^^^ (1 : Int32))), none, none], [.int (2 : Int32), .int x1])) rfl) ?_
        refine go_icmp rfl (fun (b28 : ¬ x1 = (2 : Int32)) => ?_) (fun (b28 : ¬ (¬ x1 = (2 : Int32))) => ?_)
        · have h := (if_pos b28).symm.trans h
          refine go_step (fun _ => ev_run 2 (F' := (47, [some (.ref 15), some (.int x1), some (.int x2), some (.int l3), some (.int ((a16 l3.toNatClampNeg) ^^^ (1 : Int32))), none, none], [.int (3 : Int32), .int x1])) rfl) ?_
          refine go_icmp rfl (fun (b47 : ¬ x1 = (3 : Int32)) => ?_) (fun (b47 : ¬ (¬ x1 = (3 : Int32))) => ?_)
          · have h := (if_pos b47).symm.trans h
            refine go_step (fun _ => ev_run 3 (F' := (64, [some (.ref 15), some (.int x1), some (.int x2), some (.int l3), some (.int ((a16 l3.toNatClampNeg) ^^^ (1 : Int32))), none, none], [.int ((a16 l3.toNatClampNeg) ^^^ (1 : Int32)), .int l3, .ref 15])) rfl) ?_
            obtain ⟨y1, hy1, h⟩ := okb h
            refine go_step (F1 := (67, [some (.ref 15), some (.int x1), some (.int x2), some (.int l3), some (.int ((a16 l3.toNatClampNeg) ^^^ (1 : Int32))), none, none], [.long y1])) (M1 := (H, z)) (fun _ => ev_callV (x := (.invokevirtual 32, 3, 77, 6, 987, .null)) (as := [.int l3, .int ((a16 l3.toNatClampNeg) ^^^ (1 : Int32))]) (rest := []) rfl rfl u_15 (C_X7_twoBelow (S := S) (d := d) (z := z) (x1 := l3) (x2 := ((a16 l3.toNatClampNeg) ^^^ (1 : Int32))) u_15 u_16 hy1) rfl) ?_
            refine go_step (fun _ => ev_run 4 (F' := (73, [some (.ref 15), some (.int x1), some (.int x2), some (.int l3), some (.int ((a16 l3.toNatClampNeg) ^^^ (1 : Int32))), some (.long y1), none], [.int (lg_cmp y1 (0 : Int64))])) rfl) ?_
            refine go_if rfl (fun (b73 : (lg_cmp y1 (0 : Int64)) < (0 : Int32)) => ?_) (fun (b73 : ¬ ((lg_cmp y1 (0 : Int64)) < (0 : Int32))) => ?_)
            · have h := (if_pos b73).symm.trans h
              refine go_step (fun _ => ev_run 2 (F' := (2, [some (.ref 15), some (.int x1), some (.int x2), some (.int (l3 + (1 : Int32))), some (.int ((a16 l3.toNatClampNeg) ^^^ (1 : Int32))), some (.long y1), none], [])) rfl) ?_
              refine go_step (fun _ => ev_forget (L' := [some (.ref 15), some (.int x1), some (.int x2), some (.int (l3 + (1 : Int32))), none, none, none]) (show xleP _ [some (.ref 15), some (.int x1), some (.int x2), some (.int (l3 + (1 : Int32))), some (.int ((a16 l3.toNatClampNeg) ^^^ (1 : Int32))), some (.long y1), none] from ⟨rfl, ⟨rfl, ⟨rfl, ⟨rfl, trivial⟩⟩⟩⟩) rfl) ?_
              exact ih (l3 + (1 : Int32)) _ h
            · have h := (if_neg b73).symm.trans h
              refine go_step (fun _ => ev_run 7 (F' := (84, [some (.ref 15), some (.int x1), some (.int x2), some (.int l3), some (.int ((a16 l3.toNatClampNeg) ^^^ (1 : Int32))), some (.long y1), none], [.long ((((1 : Int64) <<< (l3.toInt64 &&& (63 : Int64))) ||| y1) ||| (1 : Int64))])) rfl) ?_
              cases h
              exact Or.inr ⟨_, ev_ret rfl rfl rfl rfl, _, rfl, rfl⟩
          · have h := (if_neg b47).symm.trans h
            refine go_step (fun _ => ev_run 3 (F' := (54, [some (.ref 15), some (.int x1), some (.int x2), some (.int l3), some (.int ((a16 l3.toNatClampNeg) ^^^ (1 : Int32))), none, none], [.int ((a16 l3.toNatClampNeg) ^^^ (1 : Int32)), .int l3, .ref 15])) rfl) ?_
            obtain ⟨y2, hy2, h⟩ := okb h
            refine go_step (F1 := (57, [some (.ref 15), some (.int x1), some (.int x2), some (.int l3), some (.int ((a16 l3.toNatClampNeg) ^^^ (1 : Int32))), none, none], [.long y2])) (M1 := (H, z)) (fun _ => ev_callV (x := (.invokevirtual 29, 3, 76, 6, 982, .null)) (as := [.int l3, .int ((a16 l3.toNatClampNeg) ^^^ (1 : Int32))]) (rest := []) rfl rfl u_15 (C_X7_oneBelow (S := S) (d := d + 1) (z := z) (x1 := l3) (x2 := ((a16 l3.toNatClampNeg) ^^^ (1 : Int32))) u_15 u_16 hy2) rfl) ?_
            refine go_step (fun _ => ev_run 5 (F' := (73, [some (.ref 15), some (.int x1), some (.int x2), some (.int l3), some (.int ((a16 l3.toNatClampNeg) ^^^ (1 : Int32))), some (.long y2), none], [.int (lg_cmp y2 (0 : Int64))])) rfl) ?_
            refine go_if rfl (fun (b73 : (lg_cmp y2 (0 : Int64)) < (0 : Int32)) => ?_) (fun (b73 : ¬ ((lg_cmp y2 (0 : Int64)) < (0 : Int32))) => ?_)
            · have h := (if_pos b73).symm.trans h
              refine go_step (fun _ => ev_run 2 (F' := (2, [some (.ref 15), some (.int x1), some (.int x2), some (.int (l3 + (1 : Int32))), some (.int ((a16 l3.toNatClampNeg) ^^^ (1 : Int32))), some (.long y2), none], [])) rfl) ?_
              refine go_step (fun _ => ev_forget (L' := [some (.ref 15), some (.int x1), some (.int x2), some (.int (l3 + (1 : Int32))), none, none, none]) (show xleP _ [some (.ref 15), some (.int x1), some (.int x2), some (.int (l3 + (1 : Int32))), some (.int ((a16 l3.toNatClampNeg) ^^^ (1 : Int32))), some (.long y2), none] from ⟨rfl, ⟨rfl, ⟨rfl, ⟨rfl, trivial⟩⟩⟩⟩) rfl) ?_
              exact ih (l3 + (1 : Int32)) _ h
            · have h := (if_neg b73).symm.trans h
              refine go_step (fun _ => ev_run 7 (F' := (84, [some (.ref 15), some (.int x1), some (.int x2), some (.int l3), some (.int ((a16 l3.toNatClampNeg) ^^^ (1 : Int32))), some (.long y2), none], [.long ((((1 : Int64) <<< (l3.toInt64 &&& (63 : Int64))) ||| y2) ||| (1 : Int64))])) rfl) ?_
              cases h
              exact Or.inr ⟨_, ev_ret rfl rfl rfl rfl, _, rfl, rfl⟩
        · have h := (if_neg b28).symm.trans h
          refine go_step (fun _ => ev_run 1 (F' := (33, [some (.ref 15), some (.int x1), some (.int x2), some (.int l3), some (.int ((a16 l3.toNatClampNeg) ^^^ (1 : Int32))), none, none], [.int ((a16 l3.toNatClampNeg) ^^^ (1 : Int32))])) rfl) ?_
          refine go_step (F1 := (41, [some (.ref 15), some (.int x1), some (.int x2), some (.int l3), none, none, none], [.int (if ¬ ((a16 l3.toNatClampNeg) ^^^ (1 : Int32)) = (0 : Int32) then (-1 : Int32) else (0 : Int32))])) (M1 := (H, z)) (fun r K => ?_) ?_
          · skip
            refine ev_if rfl (fun (b33 : ¬ ((a16 l3.toNatClampNeg) ^^^ (1 : Int32)) = (0 : Int32)) => ?_) (fun (b33 : ¬ (¬ ((a16 l3.toNatClampNeg) ^^^ (1 : Int32)) = (0 : Int32))) => ?_)
            · skip
              refine ev_run 1 (F' := (41, [some (.ref 15), some (.int x1), some (.int x2), some (.int l3), some (.int ((a16 l3.toNatClampNeg) ^^^ (1 : Int32))), none, none], [.int (-1 : Int32)])) rfl ?_
              refine ev_forget (L' := [some (.ref 15), some (.int x1), some (.int x2), some (.int l3), none, none, none]) (show xleP _ [some (.ref 15), some (.int x1), some (.int x2), some (.int l3), some (.int ((a16 l3.toNatClampNeg) ^^^ (1 : Int32))), none, none] from ⟨rfl, ⟨rfl, ⟨rfl, ⟨rfl, trivial⟩⟩⟩⟩) rfl ?_
              exact ev_cast (show ((41, [some (.ref 15), some (.int x1), some (.int x2), some (.int l3), none, none, none], [.int (-1 : Int32)]) : xF) = (41, [some (.ref 15), some (.int x1), some (.int x2), some (.int l3), none, none, none], [.int (if ¬ ((a16 l3.toNatClampNeg) ^^^ (1 : Int32)) = (0 : Int32) then (-1 : Int32) else (0 : Int32))]) by first | (simp only [if_pos b33]; done) | rfl) rfl K
            · skip
              refine ev_run 2 (F' := (41, [some (.ref 15), some (.int x1), some (.int x2), some (.int l3), some (.int ((a16 l3.toNatClampNeg) ^^^ (1 : Int32))), none, none], [.int (0 : Int32)])) rfl ?_
              refine ev_forget (L' := [some (.ref 15), some (.int x1), some (.int x2), some (.int l3), none, none, none]) (show xleP _ [some (.ref 15), some (.int x1), some (.int x2), some (.int l3), some (.int ((a16 l3.toNatClampNeg) ^^^ (1 : Int32))), none, none] from ⟨rfl, ⟨rfl, ⟨rfl, ⟨rfl, trivial⟩⟩⟩⟩) rfl ?_
              exact ev_cast (show ((41, [some (.ref 15), some (.int x1), some (.int x2), some (.int l3), none, none, none], [.int (0 : Int32)]) : xF) = (41, [some (.ref 15), some (.int x1), some (.int x2), some (.int l3), none, none, none], [.int (if ¬ ((a16 l3.toNatClampNeg) ^^^ (1 : Int32)) = (0 : Int32) then (-1 : Int32) else (0 : Int32))]) by first | (simp only [if_neg b33]; done) | rfl) rfl K
          refine go_step (fun _ => ev_run 6 (F' := (73, [some (.ref 15), some (.int x1), some (.int x2), some (.int l3), none, some (.long ((if ¬ ((a16 l3.toNatClampNeg) ^^^ (1 : Int32)) = (0 : Int32) then (-1 : Int32) else (0 : Int32)).toInt64)), none], [.int (lg_cmp ((if ¬ ((a16 l3.toNatClampNeg) ^^^ (1 : Int32)) = (0 : Int32) then (-1 : Int32) else (0 : Int32)).toInt64) (0 : Int64))])) rfl) ?_
          refine go_if rfl (fun (b73 : (lg_cmp ((if ¬ ((a16 l3.toNatClampNeg) ^^^ (1 : Int32)) = (0 : Int32) then (-1 : Int32) else (0 : Int32)).toInt64) (0 : Int64)) < (0 : Int32)) => ?_) (fun (b73 : ¬ ((lg_cmp ((if ¬ ((a16 l3.toNatClampNeg) ^^^ (1 : Int32)) = (0 : Int32) then (-1 : Int32) else (0 : Int32)).toInt64) (0 : Int64)) < (0 : Int32))) => ?_)
          · have h := (if_pos b73).symm.trans h
            refine go_step (fun _ => ev_run 2 (F' := (2, [some (.ref 15), some (.int x1), some (.int x2), some (.int (l3 + (1 : Int32))), none, some (.long ((if ¬ ((a16 l3.toNatClampNeg) ^^^ (1 : Int32)) = (0 : Int32) then (-1 : Int32) else (0 : Int32)).toInt64)), none], [])) rfl) ?_
            refine go_step (fun _ => ev_forget (L' := [some (.ref 15), some (.int x1), some (.int x2), some (.int (l3 + (1 : Int32))), none, none, none]) (show xleP _ [some (.ref 15), some (.int x1), some (.int x2), some (.int (l3 + (1 : Int32))), none, some (.long ((if ¬ ((a16 l3.toNatClampNeg) ^^^ (1 : Int32)) = (0 : Int32) then (-1 : Int32) else (0 : Int32)).toInt64)), none] from ⟨rfl, ⟨rfl, ⟨rfl, ⟨rfl, trivial⟩⟩⟩⟩) rfl) ?_
            exact ih (l3 + (1 : Int32)) _ h
          · have h := (if_neg b73).symm.trans h
            refine go_step (fun _ => ev_run 7 (F' := (84, [some (.ref 15), some (.int x1), some (.int x2), some (.int l3), none, some (.long ((if ¬ ((a16 l3.toNatClampNeg) ^^^ (1 : Int32)) = (0 : Int32) then (-1 : Int32) else (0 : Int32)).toInt64)), none], [.long ((((1 : Int64) <<< (l3.toInt64 &&& (63 : Int64))) ||| ((if ¬ ((a16 l3.toNatClampNeg) ^^^ (1 : Int32)) = (0 : Int32) then (-1 : Int32) else (0 : Int32)).toInt64)) ||| (1 : Int64))])) rfl) ?_
            cases h
            exact Or.inr ⟨_, ev_ret rfl rfl rfl rfl, _, rfl, rfl⟩
theorem C_X7_leastWithin {S : Nat × (Nat → Int32)} {d : Nat} {H : List xE} {z : Bool × Nat × Nat} {a16 : Nat → Int32} {x1 : Int32} {x2 : Int32} (u_15 : H[15]? = some (.inr (6, [.ref 16]))) (u_16 : H[16]? = some (.inl (0, 48, .inl a16))) {x : Int64} (h : q_X7_leastWithin x1 x2 a16 = some x) : Cm S (d + 2) 75 [.ref 15, .int x1, .int x2] (H, z) (.inr (some (.long x)), (H, z)) := by
  have G : Go S (d + 2) 75 (0, [some (.ref 15), some (.int x1), some (.int x2), none, none, none, none], []) (H, z) (fun _ _ => False) (fun r => r = (.inr (some (.long x)), (H, z))) := by
    unfold q_X7_leastWithin at h
    refine go_step (fun _ => ev_run 2 (F' := (2, [some (.ref 15), some (.int x1), some (.int x2), some (.int (1 : Int32)), none, none, none], [])) rfl) ?_
    rcases okl h with ⟨y1, hy1, h⟩ | ⟨y1, hy1, h⟩
    · rcases L_X7_leastWithin_L2 (S := S) (d := d) (z := z) (x1 := x1) (x2 := x2) u_15 u_16 10000 (1 : Int32) _ hy1 with ⟨_, _, hr2, _, hx3, rfl, rfl⟩ | ⟨_, _, _, hx3, _⟩
      · cases hx3
        refine go_step hr2 ?_
        refine go_step (fun _ => ev_run 1 (F' := (92, [none, none, none, none, none, none, none], [.long (0 : Int64)])) rfl) ?_
        cases h
        exact Or.inr ⟨_, ev_ret rfl rfl rfl rfl, rfl⟩
      · cases hx3
    · rcases L_X7_leastWithin_L2 (S := S) (d := d) (z := z) (x1 := x1) (x2 := x2) u_15 u_16 10000 (1 : Int32) _ hy1 with ⟨_, _, _, _, hx3, _⟩ | ⟨_, hE5, _, hx3, rfl⟩
      · cases hx3
      · cases hx3
        cases h
        exact Or.inr ⟨_, hE5, rfl⟩
  obtain ⟨_, hE, rfl⟩ := go_end G
  exact hE
def q_X7_leastUnseen (x2 : Int32) (a16 : Nat → Int32) (ch1_0 : Int32) (ch1_1 : Int32) : Option (Int64 × (Nat → Int32)) := ((q_X7_findRests (48 : Int32) a16 ch1_0 ch1_1).bind (fun y1 => ((q_X7_leastWithin x2 (48 : Int32) y1).bind (fun y3 => (some (y3, y1))))))
theorem C_X7_leastUnseen {S : Nat × (Nat → Int32)} {d : Nat} {H : List xE} {z : Bool × Nat × Nat} {h1 : Nat} {a16 : Nat → Int32} {ch1_0 : Int32} {ch1_1 : Int32} {ch1_2 : Int32} {ch1_3 : Int32} {ch1_4 : Int32} {ch1_5 : Int32} {x2 : Int32} (u_16 : H[16]? = some (.inl (0, 48, .inl a16))) (u_h1 : H[h1]? = some (.inr (1, [.int ch1_0, .int ch1_1, .int ch1_2, .int ch1_3, .int ch1_4, .int ch1_5]))) (u_15 : H[15]? = some (.inr (6, [.ref 16]))) (ne_16_h1 : 16 ≠ h1) {x : (Int64 × (Nat → Int32))} (h : q_X7_leastUnseen x2 a16 ch1_0 ch1_1 = some x) : ∃ H' : List xE, Cm S (d + 3) 73 [.ref 15, .ref h1, .int x2] (H, z) (.inr (some (.long x.1)), (H', z)) ∧ H'[16]? = some (.inl (0, 48, .inl x.2)) ∧ xfr [16] H H' := by
  have G : Go S (d + 3) 73 (0, [some (.ref 15), some (.ref h1), some (.int x2)], []) (H, z) (fun _ _ => False) (fun r => ∃ H' : List xE, r = (.inr (some (.long x.1)), (H', z)) ∧ H'[16]? = some (.inl (0, 48, .inl x.2)) ∧ xfr [16] H H') := by
    unfold q_X7_leastUnseen at h
    refine go_step (fun _ => ev_run 3 (F' := (4, [some (.ref 15), some (.ref h1), some (.int x2)], [.int (48 : Int32), .ref h1, .ref 15])) rfl) ?_
    obtain ⟨y1, hy1, h⟩ := okb h
    obtain ⟨H2, hCH2, eH2_16, fH2⟩ := C_X7_findRests (S := S) (d := d + 1) (z := z) (x2 := (48 : Int32)) u_15 u_16 u_h1 ne_16_h1 hy1
    refine go_step (F1 := (7, [some (.ref 15), some (.ref h1), some (.int x2)], [])) (M1 := (H2, z)) (fun _ => ev_callV (x := (.invokevirtual 15, 3, 74, 6, 973, .null)) (as := [.ref h1, .int (48 : Int32)]) (rest := []) rfl rfl u_15 hCH2 rfl) ?_
    refine go_step (fun _ => ev_run 3 (F' := (11, [some (.ref 15), some (.ref h1), some (.int x2)], [.int (48 : Int32), .int x2, .ref 15])) rfl) ?_
    obtain ⟨y3, hy3, h⟩ := okb h
    refine go_step (F1 := (14, [some (.ref 15), some (.ref h1), some (.int x2)], [.long y3])) (M1 := (H2, z)) (fun _ => ev_callV (x := (.invokevirtual 19, 3, 75, 6, 978, .null)) (as := [.int x2, .int (48 : Int32)]) (rest := []) rfl rfl ((fH2 15 rfl).trans u_15) (C_X7_leastWithin (S := S) (d := d) (z := z) (x1 := x2) (x2 := (48 : Int32)) ((fH2 15 rfl).trans u_15) eH2_16 hy3) rfl) ?_
    cases h
    exact Or.inr ⟨_, ev_ret rfl rfl rfl rfl, H2, rfl, eH2_16, (xfr_t xfr_refl rfl fH2)⟩
  obtain ⟨_, hE, H', rfl, hrest⟩ := go_end G
  exact ⟨H', hE, hrest⟩

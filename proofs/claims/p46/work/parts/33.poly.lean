/-! Functions of the methods, and that the small machine does what they say: written by a program (wip/whole/dec). -/
def t_X4_become (x1 : Int64) (x3 : Int64) : (Int64 × Int64) := (x1, x3)
theorem C_X4_become {S : Nat × (Nat → Int32)} {d : Nat} {H : List xE} {z : Bool × Nat × Nat} {h0 : Nat} {ch0_0 : Int64} {ch0_1 : Int64} {x1 : Int64} {x3 : Int64} (u_h0 : H[h0]? = some (.inr (3, [.long ch0_0, .long ch0_1]))) : ∃ H' : List xE, Cm S d 40 [.ref h0, .long x1, .long x3] (H, z) (.inr none, (H', z)) ∧ H'[h0]? = some (.inr (3, [.long ((t_X4_become x1 x3).1), .long ((t_X4_become x1 x3).2)])) ∧ xfr [h0] H H' := by
  have G : ∀ x, t_X4_become x1 x3 = x → Go S d 40 (0, [some (.ref h0), some (.long x1), none, some (.long x3), none], []) (H, z) (fun _ _ => False) (fun r => ∃ H' : List xE, r = (.inr none, (H', z)) ∧ H'[h0]? = some (.inr (3, [.long x.1, .long x.2])) ∧ xfr [h0] H H') := by
    intro x h
    unfold t_X4_become at h
    refine go_step (fun _ => ev_run 2 (F' := (2, [some (.ref h0), some (.long x1), none, some (.long x3), none], [.long x1, .ref h0])) rfl) ?_
    refine go_putf rfl u_h0 rfl (fun H1 (eH1 : H1[h0]? = some (.inr (3, [.long x1, .long ch0_1]))) fH1 => ?_)
    refine go_step (fun _ => ev_run 2 (F' := (7, [some (.ref h0), some (.long x1), none, some (.long x3), none], [.long x3, .ref h0])) rfl) ?_
    refine go_putf rfl eH1 rfl (fun H2 (eH2 : H2[h0]? = some (.inr (3, [.long x1, .long x3]))) fH2 => ?_)
    cases h
    exact Or.inr ⟨_, ev_ret rfl rfl rfl rfl, H2, rfl, eH2, (xfr_t (xfr_t xfr_refl (xs_c xm_h rfl) fH1) (xs_c xm_h rfl) fH2)⟩
  obtain ⟨_, hE, H', rfl, hrest⟩ := go_end (G _ rfl)
  exact ⟨H', hE, hrest⟩
def t_X4_copy (ch1_0 : Int64) (ch1_1 : Int64) : (Int64 × Int64) := ((t_X4_become ch1_0 ch1_1).1, (t_X4_become ch1_0 ch1_1).2)
theorem C_X4_copy {S : Nat × (Nat → Int32)} {d : Nat} {H : List xE} {z : Bool × Nat × Nat} {h1 h0 : Nat} {ch1_0 : Int64} {ch1_1 : Int64} {ch0_0 : Int64} {ch0_1 : Int64} (u_h1 : H[h1]? = some (.inr (3, [.long ch1_0, .long ch1_1]))) (u_h0 : H[h0]? = some (.inr (3, [.long ch0_0, .long ch0_1]))) : ∃ H' : List xE, Cm S (d + 1) 41 [.ref h0, .ref h1] (H, z) (.inr none, (H', z)) ∧ H'[h0]? = some (.inr (3, [.long ((t_X4_copy ch1_0 ch1_1).1), .long ((t_X4_copy ch1_0 ch1_1).2)])) ∧ xfr [h0] H H' := by
  have G : ∀ x, t_X4_copy ch1_0 ch1_1 = x → Go S (d + 1) 41 (0, [some (.ref h0), some (.ref h1)], []) (H, z) (fun _ _ => False) (fun r => ∃ H' : List xE, r = (.inr none, (H', z)) ∧ H'[h0]? = some (.inr (3, [.long x.1, .long x.2])) ∧ xfr [h0] H H') := by
    intro x h
    unfold t_X4_copy at h
    refine go_step (fun _ => ev_run 2 (F' := (2, [some (.ref h0), some (.ref h1)], [.ref h1, .ref h0])) rfl) ?_
    refine go_step (fun _ => ev_getf rfl u_h1 rfl) ?_
    refine go_step (fun _ => ev_run 1 (F' := (6, [some (.ref h0), some (.ref h1)], [.ref h1, .long ch1_0, .ref h0])) rfl) ?_
    refine go_step (fun _ => ev_getf rfl u_h1 rfl) ?_
    obtain ⟨H1, hCH1, eH1_h0, fH1⟩ := C_X4_become (S := S) (d := d) (z := z) (x1 := ch1_0) (x3 := ch1_1) u_h0
    refine go_step (F1 := (12, [some (.ref h0), some (.ref h1)], [])) (M1 := (H1, z)) (fun _ => ev_callV (x := (.invokevirtual 16, 3, 40, 3, 853, .null)) (as := [.long ch1_0, .long ch1_1]) (rest := []) rfl rfl u_h0 hCH1 rfl) ?_
    cases h
    exact Or.inr ⟨_, ev_ret rfl rfl rfl rfl, H1, rfl, eH1_h0, (xfr_t xfr_refl (xs_c xm_h rfl) fH1)⟩
  obtain ⟨_, hE, H', rfl, hrest⟩ := go_end (G _ rfl)
  exact ⟨H', hE, hrest⟩
def t_X4_isZero (ch0_0 : Int64) (ch0_1 : Int64) : Int32 := (if ¬ (lg_cmp ch0_0 (0 : Int64)) = (0 : Int32) then (0 : Int32) else (if ¬ (lg_cmp ch0_1 (0 : Int64)) = (0 : Int32) then (0 : Int32) else (1 : Int32)))
theorem C_X4_isZero {S : Nat × (Nat → Int32)} {d : Nat} {H : List xE} {z : Bool × Nat × Nat} {h0 : Nat} {ch0_0 : Int64} {ch0_1 : Int64} (u_h0 : H[h0]? = some (.inr (3, [.long ch0_0, .long ch0_1]))) : Cm S d 42 [.ref h0] (H, z) (.inr (some (.int (t_X4_isZero ch0_0 ch0_1))), (H, z)) := by
  have G : ∀ x, t_X4_isZero ch0_0 ch0_1 = x → Go S d 42 (0, [some (.ref h0)], []) (H, z) (fun _ _ => False) (fun r => r = (.inr (some (.int x)), (H, z))) := by
    intro x h
    unfold t_X4_isZero at h
    refine go_step (fun _ => ev_run 1 (F' := (1, [some (.ref h0)], [.ref h0])) rfl) ?_
    refine go_step (fun _ => ev_getf rfl u_h0 rfl) ?_
    refine go_step (fun _ => ev_run 2 (F' := (6, [some (.ref h0)], [.int (lg_cmp ch0_0 (0 : Int64))])) rfl) ?_
    refine go_if rfl (fun (b6 : ¬ (lg_cmp ch0_0 (0 : Int64)) = (0 : Int32)) => ?_) (fun (b6 : ¬ (¬ (lg_cmp ch0_0 (0 : Int64)) = (0 : Int32))) => ?_)
    · have h := (if_pos b6).symm.trans h
      refine go_step (fun _ => ev_run 1 (F' := (23, [some (.ref h0)], [.int (0 : Int32)])) rfl) ?_
      cases h
      exact Or.inr ⟨_, ev_ret rfl rfl rfl rfl, rfl⟩
    · have h := (if_neg b6).symm.trans h
      refine go_step (fun _ => ev_run 1 (F' := (10, [some (.ref h0)], [.ref h0])) rfl) ?_
      refine go_step (fun _ => ev_getf rfl u_h0 rfl) ?_
      refine go_step (fun _ => ev_run 2 (F' := (15, [some (.ref h0)], [.int (lg_cmp ch0_1 (0 : Int64))])) rfl) ?_
      refine go_if rfl (fun (b15 : ¬ (lg_cmp ch0_1 (0 : Int64)) = (0 : Int32)) => ?_) (fun (b15 : ¬ (¬ (lg_cmp ch0_1 (0 : Int64)) = (0 : Int32))) => ?_)
      · have h := (if_pos b15).symm.trans h
        refine go_step (fun _ => ev_run 1 (F' := (23, [some (.ref h0)], [.int (0 : Int32)])) rfl) ?_
        cases h
        exact Or.inr ⟨_, ev_ret rfl rfl rfl rfl, rfl⟩
      · have h := (if_neg b15).symm.trans h
        refine go_step (fun _ => ev_run 2 (F' := (23, [some (.ref h0)], [.int (1 : Int32)])) rfl) ?_
        cases h
        exact Or.inr ⟨_, ev_ret rfl rfl rfl rfl, rfl⟩
  obtain ⟨_, hE, rfl⟩ := go_end (G _ rfl)
  exact hE
theorem b_X4_isZero (ch0_0 : Int64) (ch0_1 : Int64) : t_X4_isZero ch0_0 ch0_1 = 0 ∨ t_X4_isZero ch0_0 ch0_1 = 1 := by
  unfold t_X4_isZero
  (repeat' split) <;> first | exact Or.inl rfl | exact Or.inr rfl | skip
def t_X4_hasPower (x1 : Int32) (ch0_0 : Int64) (ch0_1 : Int64) : Int32 := (if (lg_cmp ((if (64 : Int32) ≤ x1 then (xul ch0_1 (x1 - (64 : Int32))) else (xul ch0_0 x1)) &&& (1 : Int64)) (0 : Int64)) = (0 : Int32) then (0 : Int32) else (1 : Int32))
theorem C_X4_hasPower {S : Nat × (Nat → Int32)} {d : Nat} {H : List xE} {z : Bool × Nat × Nat} {h0 : Nat} {ch0_0 : Int64} {ch0_1 : Int64} {x1 : Int32} (u_h0 : H[h0]? = some (.inr (3, [.long ch0_0, .long ch0_1]))) : Cm S d 48 [.ref h0, .int x1] (H, z) (.inr (some (.int (t_X4_hasPower x1 ch0_0 ch0_1))), (H, z)) := by
  have G : ∀ x, t_X4_hasPower x1 ch0_0 ch0_1 = x → Go S d 48 (0, [some (.ref h0), some (.int x1), none, none], []) (H, z) (fun _ _ => False) (fun r => r = (.inr (some (.int x)), (H, z))) := by
    intro x h
    unfold t_X4_hasPower at h
    refine go_step (fun _ => ev_run 2 (F' := (3, [some (.ref h0), some (.int x1), none, none], [.int (64 : Int32), .int x1])) rfl) ?_
    refine go_step (F1 := (24, [none, none, none, none], [.long (if (64 : Int32) ≤ x1 then (xul ch0_1 (x1 - (64 : Int32))) else (xul ch0_0 x1))])) (M1 := (H, z)) (fun r K => ?_) ?_
    · skip
      refine ev_icmp rfl (fun (b3 : (64 : Int32) ≤ x1) => ?_) (fun (b3 : ¬ ((64 : Int32) ≤ x1)) => ?_)
      · skip
        refine ev_run 1 (F' := (16, [some (.ref h0), some (.int x1), none, none], [.ref h0])) rfl ?_
        refine ev_getf rfl u_h0 rfl ?_
        refine ev_run 4 (F' := (24, [some (.ref h0), some (.int x1), none, none], [.long (xul ch0_1 (x1 - (64 : Int32)))])) rfl ?_
        refine ev_forget (L' := [none, none, none, none]) (show xleP _ [some (.ref h0), some (.int x1), none, none] from trivial) rfl ?_
        exact ev_cast (show ((24, [none, none, none, none], [.long (xul ch0_1 (x1 - (64 : Int32)))]) : xF) = (24, [none, none, none, none], [.long (if (64 : Int32) ≤ x1 then (xul ch0_1 (x1 - (64 : Int32))) else (xul ch0_0 x1))]) by first | (simp only [if_pos b3]; done) | rfl) rfl K
      · skip
        refine ev_run 1 (F' := (7, [some (.ref h0), some (.int x1), none, none], [.ref h0])) rfl ?_
        refine ev_getf rfl u_h0 rfl ?_
        refine ev_run 3 (F' := (24, [some (.ref h0), some (.int x1), none, none], [.long (xul ch0_0 x1)])) rfl ?_
        refine ev_forget (L' := [none, none, none, none]) (show xleP _ [some (.ref h0), some (.int x1), none, none] from trivial) rfl ?_
        exact ev_cast (show ((24, [none, none, none, none], [.long (xul ch0_0 x1)]) : xF) = (24, [none, none, none, none], [.long (if (64 : Int32) ≤ x1 then (xul ch0_1 (x1 - (64 : Int32))) else (xul ch0_0 x1))]) by first | (simp only [if_neg b3]; done) | rfl) rfl K
    refine go_step (fun _ => ev_run 6 (F' := (30, [none, none, some (.long (if (64 : Int32) ≤ x1 then (xul ch0_1 (x1 - (64 : Int32))) else (xul ch0_0 x1))), none], [.int (lg_cmp ((if (64 : Int32) ≤ x1 then (xul ch0_1 (x1 - (64 : Int32))) else (xul ch0_0 x1)) &&& (1 : Int64)) (0 : Int64))])) rfl) ?_
    refine go_if rfl (fun (b30 : (lg_cmp ((if (64 : Int32) ≤ x1 then (xul ch0_1 (x1 - (64 : Int32))) else (xul ch0_0 x1)) &&& (1 : Int64)) (0 : Int64)) = (0 : Int32)) => ?_) (fun (b30 : ¬ ((lg_cmp ((if (64 : Int32) ≤ x1 then (xul ch0_1 (x1 - (64 : Int32))) else (xul ch0_0 x1)) &&& (1 : Int64)) (0 : Int64)) = (0 : Int32))) => ?_)
    · have h := (if_pos b30).symm.trans h
      refine go_step (fun _ => ev_run 1 (F' := (38, [none, none, some (.long (if (64 : Int32) ≤ x1 then (xul ch0_1 (x1 - (64 : Int32))) else (xul ch0_0 x1))), none], [.int (0 : Int32)])) rfl) ?_
      cases h
      exact Or.inr ⟨_, ev_ret rfl rfl rfl rfl, rfl⟩
    · have h := (if_neg b30).symm.trans h
      refine go_step (fun _ => ev_run 2 (F' := (38, [none, none, some (.long (if (64 : Int32) ≤ x1 then (xul ch0_1 (x1 - (64 : Int32))) else (xul ch0_0 x1))), none], [.int (1 : Int32)])) rfl) ?_
      cases h
      exact Or.inr ⟨_, ev_ret rfl rfl rfl rfl, rfl⟩
  obtain ⟨_, hE, rfl⟩ := go_end (G _ rfl)
  exact hE
theorem b_X4_hasPower (x1 : Int32) (ch0_0 : Int64) (ch0_1 : Int64) : t_X4_hasPower x1 ch0_0 ch0_1 = 0 ∨ t_X4_hasPower x1 ch0_0 ch0_1 = 1 := by
  unfold t_X4_hasPower
  (repeat' split) <;> first | exact Or.inl rfl | exact Or.inr rfl | skip
def q_X4_degree_L3 (ch0_0 : Int64) (ch0_1 : Int64) : Nat → Int32 → Option (Int32 ⊕ Int32)
  | 0, _ => none
  | n + 1, l1 => (if l1 < (0 : Int32) then (some (Sum.inl l1)) else (if (t_X4_hasPower l1 ch0_0 ch0_1) = (0 : Int32) then (q_X4_degree_L3 ch0_0 ch0_1 n (l1 + (-1 : Int32))) else (some (Sum.inr l1))))
def q_X4_degree (ch0_0 : Int64) (ch0_1 : Int64) : Option Int32 := (xlp (q_X4_degree_L3 ch0_0 ch0_1 10000 (95 : Int32)) (fun y1 => (some (-1 : Int32))) (fun y1 => (some y1)))
theorem L_X4_degree_L3 {S : Nat × (Nat → Int32)} {d : Nat} {z : Bool × Nat × Nat} {h0 : Nat} {ch0_0 : Int64} {ch0_1 : Int64} {H : List xE} (u_h0 : H[h0]? = some (.inr (3, [.long ch0_0, .long ch0_1]))) : ∀ (n : Nat) (l1 : Int32) x, q_X4_degree_L3 ch0_0 ch0_1 n l1 = some x → Go S (d + 1) 43 (3, [some (.ref h0), some (.int l1)], []) (H, z) (fun F' M' => ∃ (m : Int32), x = Sum.inl m ∧ F' = (23, [none, none], []) ∧ M' = (H, z)) (fun r => ∃ (c : Int32), x = Sum.inr c ∧ r = (.inr (some (.int c)), (H, z))) := by
  intro n
  induction n with
  | zero =>
    intro l1 x h
    unfold q_X4_degree_L3 at h
    cases h
  | succ n ih =>
    intro l1 x h
    unfold q_X4_degree_L3 at h
    refine go_step (fun _ => ev_run 1 (F' := (4, [some (.ref h0), some (.int l1)], [.int l1])) rfl) ?_
    refine go_if rfl (fun (b4 : l1 < (0 : Int32)) => ?_) (fun (b4 : ¬ (l1 < (0 : Int32))) => ?_)
    · have h := (if_pos b4).symm.trans h
      refine go_step (fun _ => ev_forget (L' := [none, none]) (show xleP _ [some (.ref h0), some (.int l1)] from trivial) rfl) ?_
      cases h
      exact Or.inl ⟨_, _, fun r hr => hr, _, rfl, rfl, rfl⟩
    · have h := (if_neg b4).symm.trans h
      refine go_step (fun _ => ev_run 2 (F' := (9, [some (.ref h0), some (.int l1)], [.int l1, .ref h0])) rfl) ?_
      refine go_step (F1 := (12, [some (.ref h0), some (.int l1)], [.int (t_X4_hasPower l1 ch0_0 ch0_1)])) (M1 := (H, z)) (fun _ => ev_callV (x := (.invokevirtual 20, 3, 48, 3, 832, .null)) (as := [.int l1]) (rest := []) rfl rfl u_h0 (C_X4_hasPower (S := S) (d := d) (z := z) (x1 := l1) u_h0) rfl) ?_
      refine go_if rfl (fun (b12 : (t_X4_hasPower l1 ch0_0 ch0_1) = (0 : Int32)) => ?_) (fun (b12 : ¬ ((t_X4_hasPower l1 ch0_0 ch0_1) = (0 : Int32))) => ?_)
      · have h := (if_pos b12).symm.trans h
        refine go_step (fun _ => ev_run 2 (F' := (3, [some (.ref h0), some (.int (l1 + (-1 : Int32)))], [])) rfl) ?_
        exact ih (l1 + (-1 : Int32)) _ h
      · have h := (if_neg b12).symm.trans h
        refine go_step (fun _ => ev_run 1 (F' := (16, [some (.ref h0), some (.int l1)], [.int l1])) rfl) ?_
        cases h
        exact Or.inr ⟨_, ev_ret rfl rfl rfl rfl, _, rfl, rfl⟩
theorem C_X4_degree {S : Nat × (Nat → Int32)} {d : Nat} {H : List xE} {z : Bool × Nat × Nat} {h0 : Nat} {ch0_0 : Int64} {ch0_1 : Int64} (u_h0 : H[h0]? = some (.inr (3, [.long ch0_0, .long ch0_1]))) {x : Int32} (h : q_X4_degree ch0_0 ch0_1 = some x) : Cm S (d + 1) 43 [.ref h0] (H, z) (.inr (some (.int x)), (H, z)) := by
  have G : Go S (d + 1) 43 (0, [some (.ref h0), none], []) (H, z) (fun _ _ => False) (fun r => r = (.inr (some (.int x)), (H, z))) := by
    unfold q_X4_degree at h
    refine go_step (fun _ => ev_run 2 (F' := (3, [some (.ref h0), some (.int (95 : Int32))], [])) rfl) ?_
    rcases okl h with ⟨y1, hy1, h⟩ | ⟨y1, hy1, h⟩
    · rcases L_X4_degree_L3 (S := S) (d := d) (z := z) u_h0 10000 (95 : Int32) _ hy1 with ⟨_, _, hr2, _, hx3, rfl, rfl⟩ | ⟨_, _, _, hx3, _⟩
      · cases hx3
        refine go_step hr2 ?_
        refine go_step (fun _ => ev_run 1 (F' := (24, [none, none], [.int (-1 : Int32)])) rfl) ?_
        cases h
        exact Or.inr ⟨_, ev_ret rfl rfl rfl rfl, rfl⟩
      · cases hx3
    · rcases L_X4_degree_L3 (S := S) (d := d) (z := z) u_h0 10000 (95 : Int32) _ hy1 with ⟨_, _, _, _, hx3, _⟩ | ⟨_, hE5, _, hx3, rfl⟩
      · cases hx3
      · cases hx3
        cases h
        exact Or.inr ⟨_, hE5, rfl⟩
  obtain ⟨_, hE, rfl⟩ := go_end G
  exact hE
def t_X4_part (x1 : Int32) (ch0_0 : Int64) (ch0_1 : Int64) : Int32 := (if ¬ x1 = (0 : Int32) then (if ¬ x1 = (1 : Int32) then (ch0_1.toInt32) else ((xul ch0_0 (32 : Int32)).toInt32)) else (ch0_0.toInt32))
theorem C_X4_part {S : Nat × (Nat → Int32)} {d : Nat} {H : List xE} {z : Bool × Nat × Nat} {h0 : Nat} {ch0_0 : Int64} {ch0_1 : Int64} {x1 : Int32} (u_h0 : H[h0]? = some (.inr (3, [.long ch0_0, .long ch0_1]))) : Cm S d 44 [.ref h0, .int x1] (H, z) (.inr (some (.int (t_X4_part x1 ch0_0 ch0_1))), (H, z)) := by
  have G : ∀ x, t_X4_part x1 ch0_0 ch0_1 = x → Go S d 44 (0, [some (.ref h0), some (.int x1)], []) (H, z) (fun _ _ => False) (fun r => r = (.inr (some (.int x)), (H, z))) := by
    intro x h
    unfold t_X4_part at h
    refine go_step (fun _ => ev_run 1 (F' := (1, [some (.ref h0), some (.int x1)], [.int x1])) rfl) ?_
    refine go_step (F1 := (33, [none, none], [.int (if ¬ x1 = (0 : Int32) then (if ¬ x1 = (1 : Int32) then (ch0_1.toInt32) else ((xul ch0_0 (32 : Int32)).toInt32)) else (ch0_0.toInt32))])) (M1 := (H, z)) (fun r K => ?_) ?_
    · skip
      refine ev_if rfl (fun (b1 : ¬ x1 = (0 : Int32)) => ?_) (fun (b1 : ¬ (¬ x1 = (0 : Int32))) => ?_)
      · skip
        refine ev_run 2 (F' := (14, [some (.ref h0), some (.int x1)], [.int (1 : Int32), .int x1])) rfl ?_
        refine ev_icmp rfl (fun (b14 : ¬ x1 = (1 : Int32)) => ?_) (fun (b14 : ¬ (¬ x1 = (1 : Int32))) => ?_)
        · skip
          refine ev_run 1 (F' := (29, [some (.ref h0), some (.int x1)], [.ref h0])) rfl ?_
          refine ev_getf rfl u_h0 rfl ?_
          refine ev_run 1 (F' := (33, [some (.ref h0), some (.int x1)], [.int (ch0_1.toInt32)])) rfl ?_
          refine ev_forget (L' := [none, none]) (show xleP _ [some (.ref h0), some (.int x1)] from trivial) rfl ?_
          exact ev_cast (show ((33, [none, none], [.int (ch0_1.toInt32)]) : xF) = (33, [none, none], [.int (if ¬ x1 = (0 : Int32) then (if ¬ x1 = (1 : Int32) then (ch0_1.toInt32) else ((xul ch0_0 (32 : Int32)).toInt32)) else (ch0_0.toInt32))]) by first | (simp only [if_pos b1, if_pos b14]; done) | rfl) rfl K
        · skip
          refine ev_run 1 (F' := (18, [some (.ref h0), some (.int x1)], [.ref h0])) rfl ?_
          refine ev_getf rfl u_h0 rfl ?_
          refine ev_run 4 (F' := (33, [some (.ref h0), some (.int x1)], [.int ((xul ch0_0 (32 : Int32)).toInt32)])) rfl ?_
          refine ev_forget (L' := [none, none]) (show xleP _ [some (.ref h0), some (.int x1)] from trivial) rfl ?_
          exact ev_cast (show ((33, [none, none], [.int ((xul ch0_0 (32 : Int32)).toInt32)]) : xF) = (33, [none, none], [.int (if ¬ x1 = (0 : Int32) then (if ¬ x1 = (1 : Int32) then (ch0_1.toInt32) else ((xul ch0_0 (32 : Int32)).toInt32)) else (ch0_0.toInt32))]) by first | (simp only [if_pos b1, if_neg b14]; done) | rfl) rfl K
      · skip
        refine ev_run 1 (F' := (5, [some (.ref h0), some (.int x1)], [.ref h0])) rfl ?_
        refine ev_getf rfl u_h0 rfl ?_
        refine ev_run 2 (F' := (33, [some (.ref h0), some (.int x1)], [.int (ch0_0.toInt32)])) rfl ?_
        refine ev_forget (L' := [none, none]) (show xleP _ [some (.ref h0), some (.int x1)] from trivial) rfl ?_
        exact ev_cast (show ((33, [none, none], [.int (ch0_0.toInt32)]) : xF) = (33, [none, none], [.int (if ¬ x1 = (0 : Int32) then (if ¬ x1 = (1 : Int32) then (ch0_1.toInt32) else ((xul ch0_0 (32 : Int32)).toInt32)) else (ch0_0.toInt32))]) by first | (simp only [if_neg b1]; done) | rfl) rfl K
    cases h
    exact Or.inr ⟨_, ev_ret rfl rfl rfl rfl, rfl⟩
  obtain ⟨_, hE, rfl⟩ := go_end (G _ rfl)
  exact hE
def t_X4_becomeSum (c12_0 : Int64) (c12_1 : Int64) (c13_0 : Int64) (c13_1 : Int64) : (Int64 × Int64) := ((t_X4_become (c12_0 ^^^ c13_0) (c12_1 ^^^ c13_1)).1, (t_X4_become (c12_0 ^^^ c13_0) (c12_1 ^^^ c13_1)).2)
theorem C_X4_becomeSum {S : Nat × (Nat → Int32)} {d : Nat} {H : List xE} {z : Bool × Nat × Nat} {c12_0 : Int64} {c12_1 : Int64} {c13_0 : Int64} {c13_1 : Int64} {c14_0 : Int64} {c14_1 : Int64} (u_12 : H[12]? = some (.inr (3, [.long c12_0, .long c12_1]))) (u_13 : H[13]? = some (.inr (3, [.long c13_0, .long c13_1]))) (u_14 : H[14]? = some (.inr (3, [.long c14_0, .long c14_1]))) : ∃ H' : List xE, Cm S (d + 1) 45 [.ref 14, .ref 12, .ref 13] (H, z) (.inr none, (H', z)) ∧ H'[14]? = some (.inr (3, [.long ((t_X4_becomeSum c12_0 c12_1 c13_0 c13_1).1), .long ((t_X4_becomeSum c12_0 c12_1 c13_0 c13_1).2)])) ∧ xfr [14] H H' := by
  have G : ∀ x, t_X4_becomeSum c12_0 c12_1 c13_0 c13_1 = x → Go S (d + 1) 45 (0, [some (.ref 14), some (.ref 12), some (.ref 13)], []) (H, z) (fun _ _ => False) (fun r => ∃ H' : List xE, r = (.inr none, (H', z)) ∧ H'[14]? = some (.inr (3, [.long x.1, .long x.2])) ∧ xfr [14] H H') := by
    intro x h
    unfold t_X4_becomeSum at h
    refine go_step (fun _ => ev_run 2 (F' := (2, [some (.ref 14), some (.ref 12), some (.ref 13)], [.ref 12, .ref 14])) rfl) ?_
    refine go_step (fun _ => ev_getf rfl u_12 rfl) ?_
    refine go_step (fun _ => ev_run 1 (F' := (6, [some (.ref 14), some (.ref 12), some (.ref 13)], [.ref 13, .long c12_0, .ref 14])) rfl) ?_
    refine go_step (fun _ => ev_getf rfl u_13 rfl) ?_
    refine go_step (fun _ => ev_run 2 (F' := (11, [some (.ref 14), some (.ref 12), some (.ref 13)], [.ref 12, .long (c12_0 ^^^ c13_0), .ref 14])) rfl) ?_
    refine go_step (fun _ => ev_getf rfl u_12 rfl) ?_
    refine go_step (fun _ => ev_run 1 (F' := (15, [some (.ref 14), some (.ref 12), some (.ref 13)], [.ref 13, .long c12_1, .long (c12_0 ^^^ c13_0), .ref 14])) rfl) ?_
    refine go_step (fun _ => ev_getf rfl u_13 rfl) ?_
    refine go_step (fun _ => ev_run 1 (F' := (19, [some (.ref 14), some (.ref 12), some (.ref 13)], [.long (c12_1 ^^^ c13_1), .long (c12_0 ^^^ c13_0), .ref 14])) rfl) ?_
    obtain ⟨H1, hCH1, eH1_14, fH1⟩ := C_X4_become (S := S) (d := d) (z := z) (x1 := (c12_0 ^^^ c13_0)) (x3 := (c12_1 ^^^ c13_1)) u_14
    refine go_step (F1 := (22, [some (.ref 14), some (.ref 12), some (.ref 13)], [])) (M1 := (H1, z)) (fun _ => ev_callV (x := (.invokevirtual 16, 3, 40, 3, 853, .null)) (as := [.long (c12_0 ^^^ c13_0), .long (c12_1 ^^^ c13_1)]) (rest := []) rfl rfl u_14 hCH1 rfl) ?_
    cases h
    exact Or.inr ⟨_, ev_ret rfl rfl rfl rfl, H1, rfl, eH1_14, (xfr_t xfr_refl rfl fH1)⟩
  obtain ⟨_, hE, H', rfl, hrest⟩ := go_end (G _ rfl)
  exact ⟨H', hE, hrest⟩
def t_X4_addMoved (x1 : Int64) (x3 : Int64) (x5 : Int32) (ch0_0 : Int64) (ch0_1 : Int64) : (Int64 × Int64) := (if ¬ x5 = (0 : Int32) then (if (64 : Int32) ≤ x5 then (ch0_0, (ch0_1 ^^^ (x1 <<< ((x5 - (64 : Int32)).toInt64 &&& (63 : Int64))))) else ((ch0_0 ^^^ (x1 <<< (x5.toInt64 &&& (63 : Int64)))), (ch0_1 ^^^ ((x3 <<< (x5.toInt64 &&& (63 : Int64))) ||| (xul x1 ((64 : Int32) - x5)))))) else ((ch0_0 ^^^ x1), (ch0_1 ^^^ x3)))
theorem C_X4_addMoved {S : Nat × (Nat → Int32)} {d : Nat} {H : List xE} {z : Bool × Nat × Nat} {h0 : Nat} {ch0_0 : Int64} {ch0_1 : Int64} {x1 : Int64} {x3 : Int64} {x5 : Int32} (u_h0 : H[h0]? = some (.inr (3, [.long ch0_0, .long ch0_1]))) : ∃ H' : List xE, Cm S d 49 [.ref h0, .long x1, .long x3, .int x5] (H, z) (.inr none, (H', z)) ∧ H'[h0]? = some (.inr (3, [.long ((t_X4_addMoved x1 x3 x5 ch0_0 ch0_1).1), .long ((t_X4_addMoved x1 x3 x5 ch0_0 ch0_1).2)])) ∧ xfr [h0] H H' := by
  have G : ∀ x, t_X4_addMoved x1 x3 x5 ch0_0 ch0_1 = x → Go S d 49 (0, [some (.ref h0), some (.long x1), none, some (.long x3), none, some (.int x5)], []) (H, z) (fun _ _ => False) (fun r => ∃ H' : List xE, r = (.inr none, (H', z)) ∧ H'[h0]? = some (.inr (3, [.long x.1, .long x.2])) ∧ xfr [h0] H H') := by
    intro x h
    unfold t_X4_addMoved at h
    refine go_step (fun _ => ev_run 1 (F' := (2, [some (.ref h0), some (.long x1), none, some (.long x3), none, some (.int x5)], [.int x5])) rfl) ?_
    refine go_if rfl (fun (b2 : ¬ x5 = (0 : Int32)) => ?_) (fun (b2 : ¬ (¬ x5 = (0 : Int32))) => ?_)
    · have h := (if_pos b2).symm.trans h
      refine go_step (fun _ => ev_run 2 (F' := (32, [some (.ref h0), some (.long x1), none, some (.long x3), none, some (.int x5)], [.int (64 : Int32), .int x5])) rfl) ?_
      refine go_icmp rfl (fun (b32 : (64 : Int32) ≤ x5) => ?_) (fun (b32 : ¬ ((64 : Int32) ≤ x5)) => ?_)
      · have h := (if_pos b32).symm.trans h
        refine go_step (fun _ => ev_run 2 (F' := (74, [some (.ref h0), some (.long x1), none, some (.long x3), none, some (.int x5)], [.ref h0, .ref h0])) rfl) ?_
        refine go_step (fun _ => ev_getf rfl u_h0 rfl) ?_
        refine go_step (fun _ => ev_run 6 (F' := (85, [some (.ref h0), some (.long x1), none, some (.long x3), none, some (.int x5)], [.long (ch0_1 ^^^ (x1 <<< ((x5 - (64 : Int32)).toInt64 &&& (63 : Int64)))), .ref h0])) rfl) ?_
        refine go_putf rfl u_h0 rfl (fun H1 (eH1 : H1[h0]? = some (.inr (3, [.long ch0_0, .long (ch0_1 ^^^ (x1 <<< ((x5 - (64 : Int32)).toInt64 &&& (63 : Int64))))]))) fH1 => ?_)
        cases h
        exact Or.inr ⟨_, ev_ret rfl rfl rfl rfl, H1, rfl, eH1, (xfr_t xfr_refl (xs_c xm_h rfl) fH1)⟩
      · have h := (if_neg b32).symm.trans h
        refine go_step (fun _ => ev_run 2 (F' := (37, [some (.ref h0), some (.long x1), none, some (.long x3), none, some (.int x5)], [.ref h0, .ref h0])) rfl) ?_
        refine go_step (fun _ => ev_getf rfl u_h0 rfl) ?_
        refine go_step (fun _ => ev_run 4 (F' := (45, [some (.ref h0), some (.long x1), none, some (.long x3), none, some (.int x5)], [.long (ch0_0 ^^^ (x1 <<< (x5.toInt64 &&& (63 : Int64)))), .ref h0])) rfl) ?_
        refine go_putf rfl u_h0 rfl (fun H2 (eH2 : H2[h0]? = some (.inr (3, [.long (ch0_0 ^^^ (x1 <<< (x5.toInt64 &&& (63 : Int64)))), .long ch0_1]))) fH2 => ?_)
        refine go_step (fun _ => ev_run 2 (F' := (50, [some (.ref h0), some (.long x1), none, some (.long x3), none, some (.int x5)], [.ref h0, .ref h0])) rfl) ?_
        refine go_step (fun _ => ev_getf rfl eH2 rfl) ?_
        refine go_step (fun _ => ev_run 10 (F' := (66, [some (.ref h0), some (.long x1), none, some (.long x3), none, some (.int x5)], [.long (ch0_1 ^^^ ((x3 <<< (x5.toInt64 &&& (63 : Int64))) ||| (xul x1 ((64 : Int32) - x5)))), .ref h0])) rfl) ?_
        refine go_putf rfl eH2 rfl (fun H3 (eH3 : H3[h0]? = some (.inr (3, [.long (ch0_0 ^^^ (x1 <<< (x5.toInt64 &&& (63 : Int64)))), .long (ch0_1 ^^^ ((x3 <<< (x5.toInt64 &&& (63 : Int64))) ||| (xul x1 ((64 : Int32) - x5))))]))) fH3 => ?_)
        refine go_step (fun _ => ev_run 1 (F' := (88, [some (.ref h0), some (.long x1), none, some (.long x3), none, some (.int x5)], [])) rfl) ?_
        cases h
        exact Or.inr ⟨_, ev_ret rfl rfl rfl rfl, H3, rfl, eH3, (xfr_t (xfr_t xfr_refl (xs_c xm_h rfl) fH2) (xs_c xm_h rfl) fH3)⟩
    · have h := (if_neg b2).symm.trans h
      refine go_step (fun _ => ev_run 2 (F' := (7, [some (.ref h0), some (.long x1), none, some (.long x3), none, some (.int x5)], [.ref h0, .ref h0])) rfl) ?_
      refine go_step (fun _ => ev_getf rfl u_h0 rfl) ?_
      refine go_step (fun _ => ev_run 2 (F' := (12, [some (.ref h0), some (.long x1), none, some (.long x3), none, some (.int x5)], [.long (ch0_0 ^^^ x1), .ref h0])) rfl) ?_
      refine go_putf rfl u_h0 rfl (fun H4 (eH4 : H4[h0]? = some (.inr (3, [.long (ch0_0 ^^^ x1), .long ch0_1]))) fH4 => ?_)
      refine go_step (fun _ => ev_run 2 (F' := (17, [some (.ref h0), some (.long x1), none, some (.long x3), none, some (.int x5)], [.ref h0, .ref h0])) rfl) ?_
      refine go_step (fun _ => ev_getf rfl eH4 rfl) ?_
      refine go_step (fun _ => ev_run 2 (F' := (22, [some (.ref h0), some (.long x1), none, some (.long x3), none, some (.int x5)], [.long (ch0_1 ^^^ x3), .ref h0])) rfl) ?_
      refine go_putf rfl eH4 rfl (fun H5 (eH5 : H5[h0]? = some (.inr (3, [.long (ch0_0 ^^^ x1), .long (ch0_1 ^^^ x3)]))) fH5 => ?_)
      refine go_step (fun _ => ev_run 1 (F' := (88, [some (.ref h0), some (.long x1), none, some (.long x3), none, some (.int x5)], [])) rfl) ?_
      cases h
      exact Or.inr ⟨_, ev_ret rfl rfl rfl rfl, H5, rfl, eH5, (xfr_t (xfr_t xfr_refl (xs_c xm_h rfl) fH4) (xs_c xm_h rfl) fH5)⟩
  obtain ⟨_, hE, H', rfl, hrest⟩ := go_end (G _ rfl)
  exact ⟨H', hE, hrest⟩
def q_X4_becomeProduct_L8 (c12_0 : Int64) (c12_1 : Int64) (c13_0 : Int64) (c13_1 : Int64) : Nat → Int32 → Int64 → Int64 → Option (Int32 × Int64 × Int64)
  | 0, _, _, _ => none
  | n + 1, l3, c14_0, c14_1 => (if (95 : Int32) < l3 then (some (l3, c14_0, c14_1)) else (if (t_X4_hasPower l3 c12_0 c12_1) = (0 : Int32) then (q_X4_becomeProduct_L8 c12_0 c12_1 c13_0 c13_1 n (l3 + (1 : Int32)) c14_0 c14_1) else (q_X4_becomeProduct_L8 c12_0 c12_1 c13_0 c13_1 n (l3 + (1 : Int32)) ((t_X4_addMoved c13_0 c13_1 l3 c14_0 c14_1).1) ((t_X4_addMoved c13_0 c13_1 l3 c14_0 c14_1).2))))
def q_X4_becomeProduct (c12_0 : Int64) (c12_1 : Int64) (c13_0 : Int64) (c13_1 : Int64) : Option (Int64 × Int64) := ((q_X4_becomeProduct_L8 c12_0 c12_1 c13_0 c13_1 10000 (0 : Int32) ((t_X4_become (0 : Int64) (0 : Int64)).1) ((t_X4_become (0 : Int64) (0 : Int64)).2)).bind (fun y2 => (some (y2.2.1, y2.2.2))))
theorem L_X4_becomeProduct_L8 {S : Nat × (Nat → Int32)} {d : Nat} {z : Bool × Nat × Nat} {c12_0 : Int64} {c12_1 : Int64} {c13_0 : Int64} {c13_1 : Int64} {H0 : List xE} (u_12 : H0[12]? = some (.inr (3, [.long c12_0, .long c12_1]))) (u_13 : H0[13]? = some (.inr (3, [.long c13_0, .long c13_1]))) : ∀ (n : Nat) (l3 : Int32) (c14_0 : Int64) (c14_1 : Int64) (H : List xE), xfr [14] H0 H → H[14]? = some (.inr (3, [.long c14_0, .long c14_1])) → ∀ x, q_X4_becomeProduct_L8 c12_0 c12_1 c13_0 c13_1 n l3 c14_0 c14_1 = some x → Go S (d + 1) 46 (8, [some (.ref 14), some (.ref 12), some (.ref 13), some (.int l3)], []) (H, z) (fun F' M' => ∃ H' : List xE, F' = (41, [none, none, none, none], []) ∧ M' = (H', z) ∧ H'[14]? = some (.inr (3, [.long x.2.1, .long x.2.2])) ∧ xfr [14] H0 H') (fun _ => False) := by
  intro n
  induction n with
  | zero =>
    intro l3 c14_0 c14_1 H fr e_14 x h
    unfold q_X4_becomeProduct_L8 at h
    cases h
  | succ n ih =>
    intro l3 c14_0 c14_1 H fr e_14 x h
    unfold q_X4_becomeProduct_L8 at h
    refine go_step (fun _ => ev_run 2 (F' := (11, [some (.ref 14), some (.ref 12), some (.ref 13), some (.int l3)], [.int (95 : Int32), .int l3])) rfl) ?_
    refine go_icmp rfl (fun (b11 : (95 : Int32) < l3) => ?_) (fun (b11 : ¬ ((95 : Int32) < l3)) => ?_)
    · have h := (if_pos b11).symm.trans h
      refine go_step (fun _ => ev_forget (L' := [none, none, none, none]) (show xleP _ [some (.ref 14), some (.ref 12), some (.ref 13), some (.int l3)] from trivial) rfl) ?_
      cases h
      exact Or.inl ⟨_, _, fun r hr => hr, H, rfl, rfl, e_14, fr⟩
    · have h := (if_neg b11).symm.trans h
      refine go_step (fun _ => ev_run 2 (F' := (16, [some (.ref 14), some (.ref 12), some (.ref 13), some (.int l3)], [.int l3, .ref 12])) rfl) ?_
      refine go_step (F1 := (19, [some (.ref 14), some (.ref 12), some (.ref 13), some (.int l3)], [.int (t_X4_hasPower l3 c12_0 c12_1)])) (M1 := (H, z)) (fun _ => ev_callV (x := (.invokevirtual 20, 3, 48, 3, 832, .null)) (as := [.int l3]) (rest := []) rfl rfl ((fr 12 rfl).trans u_12) (C_X4_hasPower (S := S) (d := d) (z := z) (x1 := l3) ((fr 12 rfl).trans u_12)) rfl) ?_
      refine go_if rfl (fun (b19 : (t_X4_hasPower l3 c12_0 c12_1) = (0 : Int32)) => ?_) (fun (b19 : ¬ ((t_X4_hasPower l3 c12_0 c12_1) = (0 : Int32))) => ?_)
      · have h := (if_pos b19).symm.trans h
        refine go_step (fun _ => ev_run 2 (F' := (8, [some (.ref 14), some (.ref 12), some (.ref 13), some (.int (l3 + (1 : Int32)))], [])) rfl) ?_
        exact ih (l3 + (1 : Int32)) c14_0 c14_1 H fr e_14 _ h
      · have h := (if_neg b19).symm.trans h
        refine go_step (fun _ => ev_run 2 (F' := (24, [some (.ref 14), some (.ref 12), some (.ref 13), some (.int l3)], [.ref 13, .ref 14])) rfl) ?_
        refine go_step (fun _ => ev_getf rfl ((fr 13 rfl).trans u_13) rfl) ?_
        refine go_step (fun _ => ev_run 1 (F' := (28, [some (.ref 14), some (.ref 12), some (.ref 13), some (.int l3)], [.ref 13, .long c13_0, .ref 14])) rfl) ?_
        refine go_step (fun _ => ev_getf rfl ((fr 13 rfl).trans u_13) rfl) ?_
        refine go_step (fun _ => ev_run 1 (F' := (32, [some (.ref 14), some (.ref 12), some (.ref 13), some (.int l3)], [.int l3, .long c13_1, .long c13_0, .ref 14])) rfl) ?_
        obtain ⟨H1, hCH1, eH1_14, fH1⟩ := C_X4_addMoved (S := S) (d := d) (z := z) (x1 := c13_0) (x3 := c13_1) (x5 := l3) e_14
        refine go_step (F1 := (35, [some (.ref 14), some (.ref 12), some (.ref 13), some (.int l3)], [])) (M1 := (H1, z)) (fun _ => ev_callV (x := (.invokevirtual 24, 3, 49, 3, 854, .null)) (as := [.long c13_0, .long c13_1, .int l3]) (rest := []) rfl rfl e_14 hCH1 rfl) ?_
        refine go_step (fun _ => ev_run 2 (F' := (8, [some (.ref 14), some (.ref 12), some (.ref 13), some (.int (l3 + (1 : Int32)))], [])) rfl) ?_
        exact ih (l3 + (1 : Int32)) ((t_X4_addMoved c13_0 c13_1 l3 c14_0 c14_1).1) ((t_X4_addMoved c13_0 c13_1 l3 c14_0 c14_1).2) H1 (xfr_t fr rfl fH1) eH1_14 _ h
theorem C_X4_becomeProduct {S : Nat × (Nat → Int32)} {d : Nat} {H : List xE} {z : Bool × Nat × Nat} {c14_0 : Int64} {c14_1 : Int64} {c12_0 : Int64} {c12_1 : Int64} {c13_0 : Int64} {c13_1 : Int64} (u_14 : H[14]? = some (.inr (3, [.long c14_0, .long c14_1]))) (u_12 : H[12]? = some (.inr (3, [.long c12_0, .long c12_1]))) (u_13 : H[13]? = some (.inr (3, [.long c13_0, .long c13_1]))) {x : (Int64 × Int64)} (h : q_X4_becomeProduct c12_0 c12_1 c13_0 c13_1 = some x) : ∃ H' : List xE, Cm S (d + 1) 46 [.ref 14, .ref 12, .ref 13] (H, z) (.inr none, (H', z)) ∧ H'[14]? = some (.inr (3, [.long x.1, .long x.2])) ∧ xfr [14] H H' := by
  have G : Go S (d + 1) 46 (0, [some (.ref 14), some (.ref 12), some (.ref 13), none], []) (H, z) (fun _ _ => False) (fun r => ∃ H' : List xE, r = (.inr none, (H', z)) ∧ H'[14]? = some (.inr (3, [.long x.1, .long x.2])) ∧ xfr [14] H H') := by
    unfold q_X4_becomeProduct at h
    refine go_step (fun _ => ev_run 3 (F' := (3, [some (.ref 14), some (.ref 12), some (.ref 13), none], [.long (0 : Int64), .long (0 : Int64), .ref 14])) rfl) ?_
    obtain ⟨H1, hCH1, eH1_14, fH1⟩ := C_X4_become (S := S) (d := d) (z := z) (x1 := (0 : Int64)) (x3 := (0 : Int64)) u_14
    refine go_step (F1 := (6, [some (.ref 14), some (.ref 12), some (.ref 13), none], [])) (M1 := (H1, z)) (fun _ => ev_callV (x := (.invokevirtual 16, 3, 40, 3, 853, .null)) (as := [.long (0 : Int64), .long (0 : Int64)]) (rest := []) rfl rfl u_14 hCH1 rfl) ?_
    refine go_step (fun _ => ev_run 2 (F' := (8, [some (.ref 14), some (.ref 12), some (.ref 13), some (.int (0 : Int32))], [])) rfl) ?_
    obtain ⟨y2, hy2, h⟩ := okb h
    obtain ⟨_, _, hr4, H3, rfl, rfl, eH3_14, fH3⟩ := go_nr (L_X4_becomeProduct_L8 (S := S) (d := d) (z := z) ((fH1 12 rfl).trans u_12) ((fH1 13 rfl).trans u_13) 10000 (0 : Int32) ((t_X4_become (0 : Int64) (0 : Int64)).1) ((t_X4_become (0 : Int64) (0 : Int64)).2) H1 xfr_refl eH1_14 _ hy2)
    refine go_step hr4 ?_
    cases h
    exact Or.inr ⟨_, ev_ret rfl rfl rfl rfl, H3, rfl, eH3_14, (xfr_t (xfr_t xfr_refl rfl fH1) rfl fH3)⟩
  obtain ⟨_, hE, H', rfl, hrest⟩ := go_end G
  exact ⟨H', hE, hrest⟩
def q_X4_leaveRest_L15 (x3 : Int32) (c13_0 : Int64) (c13_1 : Int64) : Nat → Int32 → Int64 → Int64 → Int64 → Int64 → Option (Int32 × Int64 × Int64 × Int64 × Int64)
  | 0, _, _, _, _, _ => none
  | n + 1, l4, c14_0, c14_1, c12_0, c12_1 => (if x3 < (0 : Int32) then (some (l4, c14_0, c14_1, c12_0, c12_1)) else (if l4 < x3 then (some (l4, c14_0, c14_1, c12_0, c12_1)) else (if (t_X4_hasPower l4 c12_0 c12_1) = (0 : Int32) then (q_X4_leaveRest_L15 x3 c13_0 c13_1 n (l4 + (-1 : Int32)) c14_0 c14_1 c12_0 c12_1) else (q_X4_leaveRest_L15 x3 c13_0 c13_1 n (l4 + (-1 : Int32)) ((t_X4_addMoved (1 : Int64) (0 : Int64) (l4 - x3) c14_0 c14_1).1) ((t_X4_addMoved (1 : Int64) (0 : Int64) (l4 - x3) c14_0 c14_1).2) ((t_X4_addMoved c13_0 c13_1 (l4 - x3) c12_0 c12_1).1) ((t_X4_addMoved c13_0 c13_1 (l4 - x3) c12_0 c12_1).2)))))
def q_X4_leaveRest (c13_0 : Int64) (c13_1 : Int64) (c12_0 : Int64) (c12_1 : Int64) : Option (Int64 × Int64 × Int64 × Int64) := ((q_X4_degree c13_0 c13_1).bind (fun y1 => ((q_X4_leaveRest_L15 y1 c13_0 c13_1 10000 (95 : Int32) ((t_X4_become (0 : Int64) (0 : Int64)).1) ((t_X4_become (0 : Int64) (0 : Int64)).2) c12_0 c12_1).bind (fun y3 => (some (y3.2.1, y3.2.2.1, y3.2.2.2.1, y3.2.2.2.2))))))
theorem L_X4_leaveRest_L15 {S : Nat × (Nat → Int32)} {d : Nat} {z : Bool × Nat × Nat} {x3 : Int32} {c13_0 : Int64} {c13_1 : Int64} {H0 : List xE} (u_13 : H0[13]? = some (.inr (3, [.long c13_0, .long c13_1]))) : ∀ (n : Nat) (l4 : Int32) (c14_0 : Int64) (c14_1 : Int64) (c12_0 : Int64) (c12_1 : Int64) (H : List xE), xfr [14, 12] H0 H → H[14]? = some (.inr (3, [.long c14_0, .long c14_1])) → H[12]? = some (.inr (3, [.long c12_0, .long c12_1])) → ∀ x, q_X4_leaveRest_L15 x3 c13_0 c13_1 n l4 c14_0 c14_1 c12_0 c12_1 = some x → Go S (d + 2) 47 (15, [some (.ref 12), some (.ref 13), some (.ref 14), some (.int x3), some (.int l4)], []) (H, z) (fun F' M' => ∃ H' : List xE, F' = (66, [none, none, none, none, none], []) ∧ M' = (H', z) ∧ H'[14]? = some (.inr (3, [.long x.2.1, .long x.2.2.1])) ∧ H'[12]? = some (.inr (3, [.long x.2.2.2.1, .long x.2.2.2.2])) ∧ xfr [14, 12] H0 H') (fun _ => False) := by
  intro n
  induction n with
  | zero =>
    intro l4 c14_0 c14_1 c12_0 c12_1 H fr e_14 e_12 x h
    unfold q_X4_leaveRest_L15 at h
    cases h
  | succ n ih =>
    intro l4 c14_0 c14_1 c12_0 c12_1 H fr e_14 e_12 x h
    unfold q_X4_leaveRest_L15 at h
    refine go_step (fun _ => ev_run 1 (F' := (16, [some (.ref 12), some (.ref 13), some (.ref 14), some (.int x3), some (.int l4)], [.int x3])) rfl) ?_
    refine go_if rfl (fun (b16 : x3 < (0 : Int32)) => ?_) (fun (b16 : ¬ (x3 < (0 : Int32))) => ?_)
    · have h := (if_pos b16).symm.trans h
      refine go_step (fun _ => ev_forget (L' := [none, none, none, none, none]) (show xleP _ [some (.ref 12), some (.ref 13), some (.ref 14), some (.int x3), some (.int l4)] from trivial) rfl) ?_
      cases h
      exact Or.inl ⟨_, _, fun r hr => hr, H, rfl, rfl, e_14, e_12, fr⟩
    · have h := (if_neg b16).symm.trans h
      refine go_step (fun _ => ev_run 2 (F' := (22, [some (.ref 12), some (.ref 13), some (.ref 14), some (.int x3), some (.int l4)], [.int x3, .int l4])) rfl) ?_
      refine go_icmp rfl (fun (b22 : l4 < x3) => ?_) (fun (b22 : ¬ (l4 < x3)) => ?_)
      · have h := (if_pos b22).symm.trans h
        refine go_step (fun _ => ev_forget (L' := [none, none, none, none, none]) (show xleP _ [some (.ref 12), some (.ref 13), some (.ref 14), some (.int x3), some (.int l4)] from trivial) rfl) ?_
        cases h
        exact Or.inl ⟨_, _, fun r hr => hr, H, rfl, rfl, e_14, e_12, fr⟩
      · have h := (if_neg b22).symm.trans h
        refine go_step (fun _ => ev_run 2 (F' := (28, [some (.ref 12), some (.ref 13), some (.ref 14), some (.int x3), some (.int l4)], [.int l4, .ref 12])) rfl) ?_
        refine go_step (F1 := (31, [some (.ref 12), some (.ref 13), some (.ref 14), some (.int x3), some (.int l4)], [.int (t_X4_hasPower l4 c12_0 c12_1)])) (M1 := (H, z)) (fun _ => ev_callV (x := (.invokevirtual 20, 3, 48, 3, 832, .null)) (as := [.int l4]) (rest := []) rfl rfl e_12 (C_X4_hasPower (S := S) (d := d + 1) (z := z) (x1 := l4) e_12) rfl) ?_
        refine go_if rfl (fun (b31 : (t_X4_hasPower l4 c12_0 c12_1) = (0 : Int32)) => ?_) (fun (b31 : ¬ ((t_X4_hasPower l4 c12_0 c12_1) = (0 : Int32))) => ?_)
        · have h := (if_pos b31).symm.trans h
          refine go_step (fun _ => ev_run 2 (F' := (15, [some (.ref 12), some (.ref 13), some (.ref 14), some (.int x3), some (.int (l4 + (-1 : Int32)))], [])) rfl) ?_
          exact ih (l4 + (-1 : Int32)) c14_0 c14_1 c12_0 c12_1 H fr e_14 e_12 _ h
        · have h := (if_neg b31).symm.trans h
          refine go_step (fun _ => ev_run 2 (F' := (36, [some (.ref 12), some (.ref 13), some (.ref 14), some (.int x3), some (.int l4)], [.ref 13, .ref 12])) rfl) ?_
          refine go_step (fun _ => ev_getf rfl ((fr 13 rfl).trans u_13) rfl) ?_
          refine go_step (fun _ => ev_run 1 (F' := (40, [some (.ref 12), some (.ref 13), some (.ref 14), some (.int x3), some (.int l4)], [.ref 13, .long c13_0, .ref 12])) rfl) ?_
          refine go_step (fun _ => ev_getf rfl ((fr 13 rfl).trans u_13) rfl) ?_
          refine go_step (fun _ => ev_run 3 (F' := (47, [some (.ref 12), some (.ref 13), some (.ref 14), some (.int x3), some (.int l4)], [.int (l4 - x3), .long c13_1, .long c13_0, .ref 12])) rfl) ?_
          obtain ⟨H1, hCH1, eH1_12, fH1⟩ := C_X4_addMoved (S := S) (d := d + 1) (z := z) (x1 := c13_0) (x3 := c13_1) (x5 := (l4 - x3)) e_12
          refine go_step (F1 := (50, [some (.ref 12), some (.ref 13), some (.ref 14), some (.int x3), some (.int l4)], [])) (M1 := (H1, z)) (fun _ => ev_callV (x := (.invokevirtual 24, 3, 49, 3, 854, .null)) (as := [.long c13_0, .long c13_1, .int (l4 - x3)]) (rest := []) rfl rfl e_12 hCH1 rfl) ?_
          refine go_step (fun _ => ev_run 6 (F' := (57, [some (.ref 12), some (.ref 13), some (.ref 14), some (.int x3), some (.int l4)], [.int (l4 - x3), .long (0 : Int64), .long (1 : Int64), .ref 14])) rfl) ?_
          obtain ⟨H2, hCH2, eH2_14, fH2⟩ := C_X4_addMoved (S := S) (d := d + 1) (z := z) (x1 := (1 : Int64)) (x3 := (0 : Int64)) (x5 := (l4 - x3)) ((fH1 14 rfl).trans e_14)
          refine go_step (F1 := (60, [some (.ref 12), some (.ref 13), some (.ref 14), some (.int x3), some (.int l4)], [])) (M1 := (H2, z)) (fun _ => ev_callV (x := (.invokevirtual 24, 3, 49, 3, 854, .null)) (as := [.long (1 : Int64), .long (0 : Int64), .int (l4 - x3)]) (rest := []) rfl rfl ((fH1 14 rfl).trans e_14) hCH2 rfl) ?_
          refine go_step (fun _ => ev_run 2 (F' := (15, [some (.ref 12), some (.ref 13), some (.ref 14), some (.int x3), some (.int (l4 + (-1 : Int32)))], [])) rfl) ?_
          exact ih (l4 + (-1 : Int32)) ((t_X4_addMoved (1 : Int64) (0 : Int64) (l4 - x3) c14_0 c14_1).1) ((t_X4_addMoved (1 : Int64) (0 : Int64) (l4 - x3) c14_0 c14_1).2) ((t_X4_addMoved c13_0 c13_1 (l4 - x3) c12_0 c12_1).1) ((t_X4_addMoved c13_0 c13_1 (l4 - x3) c12_0 c12_1).2) H2 (xfr_t (xfr_t fr rfl fH1) rfl fH2) eH2_14 ((fH2 12 rfl).trans eH1_12) _ h
theorem C_X4_leaveRest {S : Nat × (Nat → Int32)} {d : Nat} {H : List xE} {z : Bool × Nat × Nat} {c13_0 : Int64} {c13_1 : Int64} {c14_0 : Int64} {c14_1 : Int64} {c12_0 : Int64} {c12_1 : Int64} (u_13 : H[13]? = some (.inr (3, [.long c13_0, .long c13_1]))) (u_14 : H[14]? = some (.inr (3, [.long c14_0, .long c14_1]))) (u_12 : H[12]? = some (.inr (3, [.long c12_0, .long c12_1]))) {x : (Int64 × Int64 × Int64 × Int64)} (h : q_X4_leaveRest c13_0 c13_1 c12_0 c12_1 = some x) : ∃ H' : List xE, Cm S (d + 2) 47 [.ref 12, .ref 13, .ref 14] (H, z) (.inr none, (H', z)) ∧ H'[14]? = some (.inr (3, [.long x.1, .long x.2.1])) ∧ H'[12]? = some (.inr (3, [.long x.2.2.1, .long x.2.2.2])) ∧ xfr [14, 12] H H' := by
  have G : Go S (d + 2) 47 (0, [some (.ref 12), some (.ref 13), some (.ref 14), none, none], []) (H, z) (fun _ _ => False) (fun r => ∃ H' : List xE, r = (.inr none, (H', z)) ∧ H'[14]? = some (.inr (3, [.long x.1, .long x.2.1])) ∧ H'[12]? = some (.inr (3, [.long x.2.2.1, .long x.2.2.2])) ∧ xfr [14, 12] H H') := by
    unfold q_X4_leaveRest at h
    refine go_step (fun _ => ev_run 1 (F' := (1, [some (.ref 12), some (.ref 13), some (.ref 14), none, none], [.ref 13])) rfl) ?_
    obtain ⟨y1, hy1, h⟩ := okb h
    refine go_step (F1 := (4, [some (.ref 12), some (.ref 13), some (.ref 14), none, none], [.int y1])) (M1 := (H, z)) (fun _ => ev_callV (x := (.invokevirtual 28, 3, 43, 3, 898, .null)) (as := []) (rest := []) rfl rfl u_13 (C_X4_degree (S := S) (d := d) (z := z) u_13 hy1) rfl) ?_
    refine go_step (fun _ => ev_run 4 (F' := (8, [some (.ref 12), some (.ref 13), some (.ref 14), some (.int y1), none], [.long (0 : Int64), .long (0 : Int64), .ref 14])) rfl) ?_
    obtain ⟨H2, hCH2, eH2_14, fH2⟩ := C_X4_become (S := S) (d := d + 1) (z := z) (x1 := (0 : Int64)) (x3 := (0 : Int64)) u_14
    refine go_step (F1 := (11, [some (.ref 12), some (.ref 13), some (.ref 14), some (.int y1), none], [])) (M1 := (H2, z)) (fun _ => ev_callV (x := (.invokevirtual 16, 3, 40, 3, 853, .null)) (as := [.long (0 : Int64), .long (0 : Int64)]) (rest := []) rfl rfl u_14 hCH2 rfl) ?_
    refine go_step (fun _ => ev_run 2 (F' := (15, [some (.ref 12), some (.ref 13), some (.ref 14), some (.int y1), some (.int (95 : Int32))], [])) rfl) ?_
    obtain ⟨y3, hy3, h⟩ := okb h
    obtain ⟨_, _, hr5, H4, rfl, rfl, eH4_14, eH4_12, fH4⟩ := go_nr (L_X4_leaveRest_L15 (S := S) (d := d) (z := z) (x3 := y1) ((fH2 13 rfl).trans u_13) 10000 (95 : Int32) ((t_X4_become (0 : Int64) (0 : Int64)).1) ((t_X4_become (0 : Int64) (0 : Int64)).2) c12_0 c12_1 H2 xfr_refl eH2_14 ((fH2 12 rfl).trans u_12) _ hy3)
    refine go_step hr5 ?_
    cases h
    exact Or.inr ⟨_, ev_ret rfl rfl rfl rfl, H4, rfl, eH4_14, eH4_12, (xfr_t (xfr_t xfr_refl rfl fH2) rfl fH4)⟩
  obtain ⟨_, hE, H', rfl, hrest⟩ := go_end G
  exact ⟨H', hE, hrest⟩
def q_X4_smallDegree_L4 (x0 : Int32) : Nat → Int32 → Int32 → Option (Int32 × Int32)
  | 0, _, _ => none
  | n + 1, l1, l2 => (if (12 : Int32) < l2 then (some (l1, l2)) else (q_X4_smallDegree_L4 x0 n (if ((xus x0 l2) &&& (1 : Int32)) = (0 : Int32) then l1 else l2) (l2 + (1 : Int32))))
def q_X4_smallDegree (x0 : Int32) : Option Int32 := ((q_X4_smallDegree_L4 x0 10000 (-1 : Int32) (0 : Int32)).bind (fun y1 => (some y1.1)))
theorem L_X4_smallDegree_L4 {S : Nat × (Nat → Int32)} {d : Nat} {z : Bool × Nat × Nat} {x0 : Int32} {H : List xE} : ∀ (n : Nat) (l1 : Int32) (l2 : Int32) x, q_X4_smallDegree_L4 x0 n l1 l2 = some x → Go S d 51 (4, [some (.int x0), some (.int l1), some (.int l2)], []) (H, z) (fun F' M' =>  F' = (26, [none, some (.int x.1), none], []) ∧ M' = (H, z)) (fun _ => False) := by
  intro n
  induction n with
  | zero =>
    intro l1 l2 x h
    unfold q_X4_smallDegree_L4 at h
    cases h
  | succ n ih =>
    intro l1 l2 x h
    unfold q_X4_smallDegree_L4 at h
    refine go_step (fun _ => ev_run 2 (F' := (7, [some (.int x0), some (.int l1), some (.int l2)], [.int (12 : Int32), .int l2])) rfl) ?_
    refine go_icmp rfl (fun (b7 : (12 : Int32) < l2) => ?_) (fun (b7 : ¬ ((12 : Int32) < l2)) => ?_)
    · have h := (if_pos b7).symm.trans h
      refine go_step (fun _ => ev_forget (L' := [none, some (.int l1), none]) (show xleP _ [some (.int x0), some (.int l1), some (.int l2)] from ⟨rfl, trivial⟩) rfl) ?_
      cases h
      exact Or.inl ⟨_, _, fun r hr => hr, rfl, rfl⟩
    · have h := (if_neg b7).symm.trans h
      refine go_step (fun _ => ev_run 5 (F' := (15, [some (.int x0), some (.int l1), some (.int l2)], [.int ((xus x0 l2) &&& (1 : Int32))])) rfl) ?_
      refine go_step (F1 := (20, [some (.int x0), some (.int (if ((xus x0 l2) &&& (1 : Int32)) = (0 : Int32) then l1 else l2)), some (.int l2)], [])) (M1 := (H, z)) (fun r K => ?_) ?_
      · skip
        refine ev_if rfl (fun (b15 : ((xus x0 l2) &&& (1 : Int32)) = (0 : Int32)) => ?_) (fun (b15 : ¬ (((xus x0 l2) &&& (1 : Int32)) = (0 : Int32))) => ?_)
        · skip
          exact ev_cast (show ((20, [some (.int x0), some (.int l1), some (.int l2)], []) : xF) = (20, [some (.int x0), some (.int (if ((xus x0 l2) &&& (1 : Int32)) = (0 : Int32) then l1 else l2)), some (.int l2)], []) by first | (simp only [if_pos b15]; done) | rfl) rfl K
        · skip
          refine ev_run 2 (F' := (20, [some (.int x0), some (.int l2), some (.int l2)], [])) rfl ?_
          exact ev_cast (show ((20, [some (.int x0), some (.int l2), some (.int l2)], []) : xF) = (20, [some (.int x0), some (.int (if ((xus x0 l2) &&& (1 : Int32)) = (0 : Int32) then l1 else l2)), some (.int l2)], []) by first | (simp only [if_neg b15]; done) | rfl) rfl K
      refine go_step (fun _ => ev_run 2 (F' := (4, [some (.int x0), some (.int (if ((xus x0 l2) &&& (1 : Int32)) = (0 : Int32) then l1 else l2)), some (.int (l2 + (1 : Int32)))], [])) rfl) ?_
      exact ih (if ((xus x0 l2) &&& (1 : Int32)) = (0 : Int32) then l1 else l2) (l2 + (1 : Int32)) _ h
theorem C_X4_smallDegree {S : Nat × (Nat → Int32)} {d : Nat} {H : List xE} {z : Bool × Nat × Nat} {x0 : Int32} {x : Int32} (h : q_X4_smallDegree x0 = some x) : Cm S d 51 [.int x0] (H, z) (.inr (some (.int x)), (H, z)) := by
  have G : Go S d 51 (0, [some (.int x0), none, none], []) (H, z) (fun _ _ => False) (fun r => r = (.inr (some (.int x)), (H, z))) := by
    unfold q_X4_smallDegree at h
    refine go_step (fun _ => ev_run 4 (F' := (4, [some (.int x0), some (.int (-1 : Int32)), some (.int (0 : Int32))], [])) rfl) ?_
    obtain ⟨y1, hy1, h⟩ := okb h
    obtain ⟨_, _, hr2, rfl, rfl⟩ := go_nr (L_X4_smallDegree_L4 (S := S) (d := d) (z := z) (x0 := x0) 10000 (-1 : Int32) (0 : Int32) _ hy1)
    refine go_step hr2 ?_
    refine go_step (fun _ => ev_run 1 (F' := (27, [none, some (.int y1.1), none], [.int y1.1])) rfl) ?_
    cases h
    exact Or.inr ⟨_, ev_ret rfl rfl rfl rfl, rfl⟩
  obtain ⟨_, hE, rfl⟩ := go_end G
  exact hE
def q_X4_orderOf_L9 (x0 : Int32) (x1 : Int32) : Nat → Int32 → Int32 → Option ((Int32 × Int32) ⊕ Int32)
  | 0, _, _ => none
  | n + 1, l2, l3 => (if (4096 : Int32) < l3 then (some (Sum.inl (l2, l3))) else (if ¬ (if ((xus (l2 <<< ((1 : Int32) &&& (31 : Int32))) x1) &&& (1 : Int32)) = (0 : Int32) then (l2 <<< ((1 : Int32) &&& (31 : Int32))) else ((l2 <<< ((1 : Int32) &&& (31 : Int32))) ^^^ x0)) = (1 : Int32) then (q_X4_orderOf_L9 x0 x1 n (if ((xus (l2 <<< ((1 : Int32) &&& (31 : Int32))) x1) &&& (1 : Int32)) = (0 : Int32) then (l2 <<< ((1 : Int32) &&& (31 : Int32))) else ((l2 <<< ((1 : Int32) &&& (31 : Int32))) ^^^ x0)) (l3 + (1 : Int32))) else (some (Sum.inr l3))))
def q_X4_orderOf (x0 : Int32) : Option Int32 := ((q_X4_smallDegree x0).bind (fun y1 => (xlp (q_X4_orderOf_L9 x0 y1 10000 (1 : Int32) (1 : Int32)) (fun y2 => (some (0 : Int32))) (fun y2 => (some y2)))))
theorem L_X4_orderOf_L9 {S : Nat × (Nat → Int32)} {d : Nat} {z : Bool × Nat × Nat} {x0 : Int32} {x1 : Int32} {H : List xE} : ∀ (n : Nat) (l2 : Int32) (l3 : Int32) x, q_X4_orderOf_L9 x0 x1 n l2 l3 = some x → Go S (d + 1) 50 (9, [some (.int x0), some (.int x1), some (.int l2), some (.int l3)], []) (H, z) (fun F' M' => ∃ (m : (Int32 × Int32)), x = Sum.inl m ∧ F' = (45, [none, none, none, none], []) ∧ M' = (H, z)) (fun r => ∃ (c : Int32), x = Sum.inr c ∧ r = (.inr (some (.int c)), (H, z))) := by
  intro n
  induction n with
  | zero =>
    intro l2 l3 x h
    unfold q_X4_orderOf_L9 at h
    cases h
  | succ n ih =>
    intro l2 l3 x h
    unfold q_X4_orderOf_L9 at h
    refine go_step (fun _ => ev_run 2 (F' := (13, [some (.int x0), some (.int x1), some (.int l2), some (.int l3)], [.int (4096 : Int32), .int l3])) rfl) ?_
    refine go_icmp rfl (fun (b13 : (4096 : Int32) < l3) => ?_) (fun (b13 : ¬ ((4096 : Int32) < l3)) => ?_)
    · have h := (if_pos b13).symm.trans h
      refine go_step (fun _ => ev_forget (L' := [none, none, none, none]) (show xleP _ [some (.int x0), some (.int x1), some (.int l2), some (.int l3)] from trivial) rfl) ?_
      cases h
      exact Or.inl ⟨_, _, fun r hr => hr, _, rfl, rfl, rfl⟩
    · have h := (if_neg b13).symm.trans h
      refine go_step (fun _ => ev_run 9 (F' := (25, [some (.int x0), some (.int x1), some (.int (l2 <<< ((1 : Int32) &&& (31 : Int32)))), some (.int l3)], [.int ((xus (l2 <<< ((1 : Int32) &&& (31 : Int32))) x1) &&& (1 : Int32))])) rfl) ?_
      refine go_step (F1 := (32, [some (.int x0), some (.int x1), some (.int (if ((xus (l2 <<< ((1 : Int32) &&& (31 : Int32))) x1) &&& (1 : Int32)) = (0 : Int32) then (l2 <<< ((1 : Int32) &&& (31 : Int32))) else ((l2 <<< ((1 : Int32) &&& (31 : Int32))) ^^^ x0))), some (.int l3)], [])) (M1 := (H, z)) (fun r K => ?_) ?_
      · skip
        refine ev_if rfl (fun (b25 : ((xus (l2 <<< ((1 : Int32) &&& (31 : Int32))) x1) &&& (1 : Int32)) = (0 : Int32)) => ?_) (fun (b25 : ¬ (((xus (l2 <<< ((1 : Int32) &&& (31 : Int32))) x1) &&& (1 : Int32)) = (0 : Int32))) => ?_)
        · skip
          exact ev_cast (show ((32, [some (.int x0), some (.int x1), some (.int (l2 <<< ((1 : Int32) &&& (31 : Int32)))), some (.int l3)], []) : xF) = (32, [some (.int x0), some (.int x1), some (.int (if ((xus (l2 <<< ((1 : Int32) &&& (31 : Int32))) x1) &&& (1 : Int32)) = (0 : Int32) then (l2 <<< ((1 : Int32) &&& (31 : Int32))) else ((l2 <<< ((1 : Int32) &&& (31 : Int32))) ^^^ x0))), some (.int l3)], []) by first | (simp only [if_pos b25]; done) | rfl) rfl K
        · skip
          refine ev_run 4 (F' := (32, [some (.int x0), some (.int x1), some (.int ((l2 <<< ((1 : Int32) &&& (31 : Int32))) ^^^ x0)), some (.int l3)], [])) rfl ?_
          exact ev_cast (show ((32, [some (.int x0), some (.int x1), some (.int ((l2 <<< ((1 : Int32) &&& (31 : Int32))) ^^^ x0)), some (.int l3)], []) : xF) = (32, [some (.int x0), some (.int x1), some (.int (if ((xus (l2 <<< ((1 : Int32) &&& (31 : Int32))) x1) &&& (1 : Int32)) = (0 : Int32) then (l2 <<< ((1 : Int32) &&& (31 : Int32))) else ((l2 <<< ((1 : Int32) &&& (31 : Int32))) ^^^ x0))), some (.int l3)], []) by first | (simp only [if_neg b25]; done) | rfl) rfl K
      refine go_step (fun _ => ev_run 2 (F' := (34, [some (.int x0), some (.int x1), some (.int (if ((xus (l2 <<< ((1 : Int32) &&& (31 : Int32))) x1) &&& (1 : Int32)) = (0 : Int32) then (l2 <<< ((1 : Int32) &&& (31 : Int32))) else ((l2 <<< ((1 : Int32) &&& (31 : Int32))) ^^^ x0))), some (.int l3)], [.int (1 : Int32), .int (if ((xus (l2 <<< ((1 : Int32) &&& (31 : Int32))) x1) &&& (1 : Int32)) = (0 : Int32) then (l2 <<< ((1 : Int32) &&& (31 : Int32))) else ((l2 <<< ((1 : Int32) &&& (31 : Int32))) ^^^ x0))])) rfl) ?_
      refine go_icmp rfl (fun (b34 : ¬ (if ((xus (l2 <<< ((1 : Int32) &&& (31 : Int32))) x1) &&& (1 : Int32)) = (0 : Int32) then (l2 <<< ((1 : Int32) &&& (31 : Int32))) else ((l2 <<< ((1 : Int32) &&& (31 : Int32))) ^^^ x0)) = (1 : Int32)) => ?_) (fun (b34 : ¬ (¬ (if ((xus (l2 <<< ((1 : Int32) &&& (31 : Int32))) x1) &&& (1 : Int32)) = (0 : Int32) then (l2 <<< ((1 : Int32) &&& (31 : Int32))) else ((l2 <<< ((1 : Int32) &&& (31 : Int32))) ^^^ x0)) = (1 : Int32))) => ?_)
      · have h := (if_pos b34).symm.trans h
        refine go_step (fun _ => ev_run 2 (F' := (9, [some (.int x0), some (.int x1), some (.int (if ((xus (l2 <<< ((1 : Int32) &&& (31 : Int32))) x1) &&& (1 : Int32)) = (0 : Int32) then (l2 <<< ((1 : Int32) &&& (31 : Int32))) else ((l2 <<< ((1 : Int32) &&& (31 : Int32))) ^^^ x0))), some (.int (l3 + (1 : Int32)))], [])) rfl) ?_
        exact ih (if ((xus (l2 <<< ((1 : Int32) &&& (31 : Int32))) x1) &&& (1 : Int32)) = (0 : Int32) then (l2 <<< ((1 : Int32) &&& (31 : Int32))) else ((l2 <<< ((1 : Int32) &&& (31 : Int32))) ^^^ x0)) (l3 + (1 : Int32)) _ h
      · have h := (if_neg b34).symm.trans h
        refine go_step (fun _ => ev_run 1 (F' := (38, [some (.int x0), some (.int x1), some (.int (if ((xus (l2 <<< ((1 : Int32) &&& (31 : Int32))) x1) &&& (1 : Int32)) = (0 : Int32) then (l2 <<< ((1 : Int32) &&& (31 : Int32))) else ((l2 <<< ((1 : Int32) &&& (31 : Int32))) ^^^ x0))), some (.int l3)], [.int l3])) rfl) ?_
        cases h
        exact Or.inr ⟨_, ev_ret rfl rfl rfl rfl, _, rfl, rfl⟩
theorem C_X4_orderOf {S : Nat × (Nat → Int32)} {d : Nat} {H : List xE} {z : Bool × Nat × Nat} {x0 : Int32} {x : Int32} (h : q_X4_orderOf x0 = some x) : Cm S (d + 1) 50 [.int x0] (H, z) (.inr (some (.int x)), (H, z)) := by
  have G : Go S (d + 1) 50 (0, [some (.int x0), none, none, none], []) (H, z) (fun _ _ => False) (fun r => r = (.inr (some (.int x)), (H, z))) := by
    unfold q_X4_orderOf at h
    refine go_step (fun _ => ev_run 1 (F' := (1, [some (.int x0), none, none, none], [.int x0])) rfl) ?_
    obtain ⟨y1, hy1, h⟩ := okb h
    refine go_step (F1 := (4, [some (.int x0), none, none, none], [.int y1])) (M1 := (H, z)) (fun _ => ev_call (x := (.invokestatic 32, 3, 51, 3, 957, .null)) (as := [.int x0]) (rest := []) rfl rfl (C_X4_smallDegree (S := S) (d := d) (z := z) (x0 := x0) hy1) rfl) ?_
    refine go_step (fun _ => ev_run 5 (F' := (9, [some (.int x0), some (.int y1), some (.int (1 : Int32)), some (.int (1 : Int32))], [])) rfl) ?_
    rcases okl h with ⟨y2, hy2, h⟩ | ⟨y2, hy2, h⟩
    · rcases L_X4_orderOf_L9 (S := S) (d := d) (z := z) (x0 := x0) (x1 := y1) 10000 (1 : Int32) (1 : Int32) _ hy2 with ⟨_, _, hr3, _, hx4, rfl, rfl⟩ | ⟨_, _, _, hx4, _⟩
      · cases hx4
        refine go_step hr3 ?_
        refine go_step (fun _ => ev_run 1 (F' := (46, [none, none, none, none], [.int (0 : Int32)])) rfl) ?_
        cases h
        exact Or.inr ⟨_, ev_ret rfl rfl rfl rfl, rfl⟩
      · cases hx4
    · rcases L_X4_orderOf_L9 (S := S) (d := d) (z := z) (x0 := x0) (x1 := y1) 10000 (1 : Int32) (1 : Int32) _ hy2 with ⟨_, _, _, _, hx4, _⟩ | ⟨_, hE6, _, hx4, rfl⟩
      · cases hx4
      · cases hx4
        cases h
        exact Or.inr ⟨_, hE6, rfl⟩
  obtain ⟨_, hE, rfl⟩ := go_end G
  exact hE

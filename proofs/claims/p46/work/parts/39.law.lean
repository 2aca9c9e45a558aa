/-! Functions of the methods, and that the small machine does what they say: written by a program (wip/whole/dec). -/
def q_L_stirred_L14 (S : Nat × (Nat → Int32)) (x3 : Int32) : Nat → Int32 → Int32 → Option (Int32 × Int32)
  | 0, _, _ => none
  | n + 1, l1, l4 => (if x3 ≤ l4 then (some (l1, l4)) else (if xin l4 S.1 = true then (q_L_stirred_L14 S x3 n ((l1 ^^^ (S.2 l4.toNatClampNeg)) * (16777619 : Int32)) (l4 + (1 : Int32))) else none))
def q_L_stirred (S : Nat × (Nat → Int32)) : Option Int32 := ((q_L_stirred_L14 S (nI S.1) 10000 ((nI S.1) + (11 : Int32)) (0 : Int32)).bind (fun y1 => (some (if ¬ ((y1.1 ^^^ (xus y1.1 (15 : Int32))) &&& (3 : Int32)) = (0 : Int32) then (y1.1 ^^^ (xus y1.1 (15 : Int32))) else (0 : Int32)))))
theorem L_L_stirred_L14 {S : Nat × (Nat → Int32)} {d : Nat} {z : Bool × Nat × Nat} {x3 : Int32} {H : List xE} (u_1000002 : H[1000002]? = none) : ∀ (n : Nat) (l1 : Int32) (l4 : Int32) x, q_L_stirred_L14 S x3 n l1 l4 = some x → Go S d 158 (14, [none, some (.int l1), some (.ref 1000002), some (.int x3), some (.int l4), none], []) (H, z) (fun F' M' =>  F' = (40, [none, some (.int x.1), none, none, none, none], []) ∧ M' = (H, z)) (fun _ => False) := by
  intro n
  induction n with
  | zero =>
    intro l1 l4 x h
    unfold q_L_stirred_L14 at h
    cases h
  | succ n ih =>
    intro l1 l4 x h
    unfold q_L_stirred_L14 at h
    refine go_step (fun _ => ev_run 2 (F' := (17, [none, some (.int l1), some (.ref 1000002), some (.int x3), some (.int l4), none], [.int x3, .int l4])) rfl) ?_
    refine go_icmp rfl (fun (b17 : x3 ≤ l4) => ?_) (fun (b17 : ¬ (x3 ≤ l4)) => ?_)
    · have h := (if_pos b17).symm.trans h
      refine go_step (fun _ => ev_forget (L' := [none, some (.int l1), none, none, none, none]) (show xleP _ [none, some (.int l1), some (.ref 1000002), some (.int x3), some (.int l4), none] from ⟨rfl, trivial⟩) rfl) ?_
      cases h
      exact Or.inl ⟨_, _, fun r hr => hr, rfl, rfl⟩
    · have h := (if_neg b17).symm.trans h
      refine go_step (fun _ => ev_run 2 (F' := (23, [none, some (.int l1), some (.ref 1000002), some (.int x3), some (.int l4), none], [.int l4, .ref 1000002])) rfl) ?_
      obtain ⟨g23, h⟩ := okg h
      refine go_step (fun _ => ev_riald (t := 0) (f := S.2) rfl u_1000002 rfl g23) ?_
      refine go_step (fun _ => ev_run 9 (F' := (14, [none, some (.int ((l1 ^^^ (S.2 l4.toNatClampNeg)) * (16777619 : Int32))), some (.ref 1000002), some (.int x3), some (.int (l4 + (1 : Int32))), some (.int (S.2 l4.toNatClampNeg))], [])) rfl) ?_
      refine go_step (fun _ => ev_forget (L' := [none, some (.int ((l1 ^^^ (S.2 l4.toNatClampNeg)) * (16777619 : Int32))), some (.ref 1000002), some (.int x3), some (.int (l4 + (1 : Int32))), none]) (show xleP _ [none, some (.int ((l1 ^^^ (S.2 l4.toNatClampNeg)) * (16777619 : Int32))), some (.ref 1000002), some (.int x3), some (.int (l4 + (1 : Int32))), some (.int (S.2 l4.toNatClampNeg))] from ⟨rfl, ⟨rfl, ⟨rfl, ⟨rfl, trivial⟩⟩⟩⟩) rfl) ?_
      exact ih ((l1 ^^^ (S.2 l4.toNatClampNeg)) * (16777619 : Int32)) (l4 + (1 : Int32)) _ h
theorem C_L_stirred {S : Nat × (Nat → Int32)} {d : Nat} {H : List xE} {z : Bool × Nat × Nat} (u_1000002 : H[1000002]? = none) {x : Int32} (h : q_L_stirred S = some x) : Cm S d 158 [.ref 1000002] (H, z) (.inr (some (.int x)), (H, z)) := by
  have G : Go S d 158 (0, [some (.ref 1000002), none, none, none, none, none], []) (H, z) (fun _ _ => False) (fun r => r = (.inr (some (.int x)), (H, z))) := by
    unfold q_L_stirred at h
    refine go_step (fun _ => ev_run 1 (F' := (1, [some (.ref 1000002), none, none, none, none, none], [.ref 1000002])) rfl) ?_
    refine go_step (fun _ => ev_rlen (t := 0) (m := S.1) (f := S.2) rfl u_1000002 rfl) ?_
    refine go_step (fun _ => ev_run 6 (F' := (9, [some (.ref 1000002), some (.int ((nI S.1) + (11 : Int32))), some (.ref 1000002), none, none, none], [.ref 1000002])) rfl) ?_
    refine go_step (fun _ => ev_rlen (t := 0) (m := S.1) (f := S.2) rfl u_1000002 rfl) ?_
    refine go_step (fun _ => ev_run 3 (F' := (14, [some (.ref 1000002), some (.int ((nI S.1) + (11 : Int32))), some (.ref 1000002), some (.int (nI S.1)), some (.int (0 : Int32)), none], [])) rfl) ?_
    refine go_step (fun _ => ev_forget (L' := [none, some (.int ((nI S.1) + (11 : Int32))), some (.ref 1000002), some (.int (nI S.1)), some (.int (0 : Int32)), none]) (show xleP _ [some (.ref 1000002), some (.int ((nI S.1) + (11 : Int32))), some (.ref 1000002), some (.int (nI S.1)), some (.int (0 : Int32)), none] from ⟨rfl, ⟨rfl, ⟨rfl, ⟨rfl, trivial⟩⟩⟩⟩) rfl) ?_
    obtain ⟨y1, hy1, h⟩ := okb h
    obtain ⟨_, _, hr2, rfl, rfl⟩ := go_nr (L_L_stirred_L14 (S := S) (d := d) (z := z) (x3 := (nI S.1)) u_1000002 10000 ((nI S.1) + (11 : Int32)) (0 : Int32) _ hy1)
    refine go_step hr2 ?_
    refine go_step (fun _ => ev_run 9 (F' := (50, [none, some (.int (y1.1 ^^^ (xus y1.1 (15 : Int32)))), none, none, none, none], [.int ((y1.1 ^^^ (xus y1.1 (15 : Int32))) &&& (3 : Int32))])) rfl) ?_
    refine go_step (F1 := (58, [none, none, none, none, none, none], [.int (if ¬ ((y1.1 ^^^ (xus y1.1 (15 : Int32))) &&& (3 : Int32)) = (0 : Int32) then (y1.1 ^^^ (xus y1.1 (15 : Int32))) else (0 : Int32))])) (M1 := (H, z)) (fun r K => ?_) ?_
    · skip
      refine ev_if rfl (fun (b50 : ¬ ((y1.1 ^^^ (xus y1.1 (15 : Int32))) &&& (3 : Int32)) = (0 : Int32)) => ?_) (fun (b50 : ¬ (¬ ((y1.1 ^^^ (xus y1.1 (15 : Int32))) &&& (3 : Int32)) = (0 : Int32))) => ?_)
      · skip
        refine ev_run 1 (F' := (58, [none, some (.int (y1.1 ^^^ (xus y1.1 (15 : Int32)))), none, none, none, none], [.int (y1.1 ^^^ (xus y1.1 (15 : Int32)))])) rfl ?_
        refine ev_forget (L' := [none, none, none, none, none, none]) (show xleP _ [none, some (.int (y1.1 ^^^ (xus y1.1 (15 : Int32)))), none, none, none, none] from trivial) rfl ?_
        exact ev_cast (show ((58, [none, none, none, none, none, none], [.int (y1.1 ^^^ (xus y1.1 (15 : Int32)))]) : xF) = (58, [none, none, none, none, none, none], [.int (if ¬ ((y1.1 ^^^ (xus y1.1 (15 : Int32))) &&& (3 : Int32)) = (0 : Int32) then (y1.1 ^^^ (xus y1.1 (15 : Int32))) else (0 : Int32))]) by first | (simp only [if_pos b50]; done) | rfl) rfl K
      · skip
        refine ev_run 2 (F' := (58, [none, some (.int (y1.1 ^^^ (xus y1.1 (15 : Int32)))), none, none, none, none], [.int (0 : Int32)])) rfl ?_
        refine ev_forget (L' := [none, none, none, none, none, none]) (show xleP _ [none, some (.int (y1.1 ^^^ (xus y1.1 (15 : Int32)))), none, none, none, none] from trivial) rfl ?_
        exact ev_cast (show ((58, [none, none, none, none, none, none], [.int (0 : Int32)]) : xF) = (58, [none, none, none, none, none, none], [.int (if ¬ ((y1.1 ^^^ (xus y1.1 (15 : Int32))) &&& (3 : Int32)) = (0 : Int32) then (y1.1 ^^^ (xus y1.1 (15 : Int32))) else (0 : Int32))]) by first | (simp only [if_neg b50]; done) | rfl) rfl K
    cases h
    exact Or.inr ⟨_, ev_ret rfl rfl rfl rfl, rfl⟩
  obtain ⟨_, hE, rfl⟩ := go_end G
  exact hE
def q_L_cell (S : Nat × (Nat → Int32)) (x1 : Int32) : Option Int32 := ((q_L_stirred S ).bind (fun y1 => (if ¬ y1 = (0 : Int32) then (some (((((y1 ^^^ ((40503 : Int32) * x1)) * (739982445 : Int32)) ^^^ (xus ((y1 ^^^ ((40503 : Int32) * x1)) * (739982445 : Int32)) (12 : Int32))) * (695872825 : Int32)) ^^^ (xus ((((y1 ^^^ ((40503 : Int32) * x1)) * (739982445 : Int32)) ^^^ (xus ((y1 ^^^ ((40503 : Int32) * x1)) * (739982445 : Int32)) (12 : Int32))) * (695872825 : Int32)) (15 : Int32)))) else (if (nI S.1) ≤ x1 then (some (((7919 : Int32) * x1) + (163 : Int32))) else (if xin x1 S.1 = true then (some (S.2 x1.toNatClampNeg)) else none)))))
theorem C_L_cell {S : Nat × (Nat → Int32)} {d : Nat} {H : List xE} {z : Bool × Nat × Nat} {x1 : Int32} (u_1000002 : H[1000002]? = none) {x : Int32} (h : q_L_cell S x1 = some x) : Cm S (d + 1) 159 [.ref 1000002, .int x1] (H, z) (.inr (some (.int x)), (H, z)) := by
  have G : Go S (d + 1) 159 (0, [some (.ref 1000002), some (.int x1), none], []) (H, z) (fun _ _ => False) (fun r => r = (.inr (some (.int x)), (H, z))) := by
    unfold q_L_cell at h
    refine go_step (fun _ => ev_run 1 (F' := (1, [some (.ref 1000002), some (.int x1), none], [.ref 1000002])) rfl) ?_
    obtain ⟨y1, hy1, h⟩ := okb h
    refine go_step (F1 := (4, [some (.ref 1000002), some (.int x1), none], [.int y1])) (M1 := (H, z)) (fun _ => ev_call (x := (.invokestatic 35, 3, 158, 11, 652, .null)) (as := [.ref 1000002]) (rest := []) rfl rfl (C_L_stirred (S := S) (d := d) (z := z) u_1000002 hy1) rfl) ?_
    refine go_step (fun _ => ev_run 2 (F' := (6, [some (.ref 1000002), some (.int x1), some (.int y1)], [.int y1])) rfl) ?_
    refine go_if rfl (fun (b6 : ¬ y1 = (0 : Int32)) => ?_) (fun (b6 : ¬ (¬ y1 = (0 : Int32))) => ?_)
    · have h := (if_pos b6).symm.trans h
      refine go_step (fun _ => ev_run 21 (F' := (57, [some (.ref 1000002), some (.int x1), some (.int ((((y1 ^^^ ((40503 : Int32) * x1)) * (739982445 : Int32)) ^^^ (xus ((y1 ^^^ ((40503 : Int32) * x1)) * (739982445 : Int32)) (12 : Int32))) * (695872825 : Int32)))], [.int (((((y1 ^^^ ((40503 : Int32) * x1)) * (739982445 : Int32)) ^^^ (xus ((y1 ^^^ ((40503 : Int32) * x1)) * (739982445 : Int32)) (12 : Int32))) * (695872825 : Int32)) ^^^ (xus ((((y1 ^^^ ((40503 : Int32) * x1)) * (739982445 : Int32)) ^^^ (xus ((y1 ^^^ ((40503 : Int32) * x1)) * (739982445 : Int32)) (12 : Int32))) * (695872825 : Int32)) (15 : Int32)))])) rfl) ?_
      cases h
      exact Or.inr ⟨_, ev_ret rfl rfl rfl rfl, rfl⟩
    · have h := (if_neg b6).symm.trans h
      refine go_step (fun _ => ev_run 2 (F' := (11, [some (.ref 1000002), some (.int x1), some (.int y1)], [.ref 1000002, .int x1])) rfl) ?_
      refine go_step (fun _ => ev_rlen (t := 0) (m := S.1) (f := S.2) rfl u_1000002 rfl) ?_
      refine go_icmp rfl (fun (b12 : (nI S.1) ≤ x1) => ?_) (fun (b12 : ¬ ((nI S.1) ≤ x1)) => ?_)
      · have h := (if_pos b12).symm.trans h
        refine go_step (fun _ => ev_run 5 (F' := (30, [some (.ref 1000002), some (.int x1), some (.int y1)], [.int (((7919 : Int32) * x1) + (163 : Int32))])) rfl) ?_
        cases h
        exact Or.inr ⟨_, ev_ret rfl rfl rfl rfl, rfl⟩
      · have h := (if_neg b12).symm.trans h
        refine go_step (fun _ => ev_run 2 (F' := (17, [some (.ref 1000002), some (.int x1), some (.int y1)], [.int x1, .ref 1000002])) rfl) ?_
        obtain ⟨g17, h⟩ := okg h
        refine go_step (fun _ => ev_riald (t := 0) (f := S.2) rfl u_1000002 rfl g17) ?_
        refine go_step (fun _ => ev_run 1 (F' := (30, [some (.ref 1000002), some (.int x1), some (.int y1)], [.int (S.2 x1.toNatClampNeg)])) rfl) ?_
        cases h
        exact Or.inr ⟨_, ev_ret rfl rfl rfl rfl, rfl⟩
  obtain ⟨_, hE, rfl⟩ := go_end G
  exact hE
def q_L_some (S : Nat × (Nat → Int32)) (x1 : Int32) (x2 : Int32) : Option Int32 := ((q_L_cell S x1).bind (fun y1 => (if x2 = (0 : Int32) then none else (some ((xus y1 (3 : Int32)) - (xus y1 (3 : Int32)) / x2 * x2)))))
theorem C_L_some {S : Nat × (Nat → Int32)} {d : Nat} {H : List xE} {z : Bool × Nat × Nat} {x1 : Int32} {x2 : Int32} (u_1000002 : H[1000002]? = none) {x : Int32} (h : q_L_some S x1 x2 = some x) : Cm S (d + 2) 160 [.ref 1000002, .int x1, .int x2] (H, z) (.inr (some (.int x)), (H, z)) := by
  have G : Go S (d + 2) 160 (0, [some (.ref 1000002), some (.int x1), some (.int x2)], []) (H, z) (fun _ _ => False) (fun r => r = (.inr (some (.int x)), (H, z))) := by
    unfold q_L_some at h
    refine go_step (fun _ => ev_run 2 (F' := (2, [some (.ref 1000002), some (.int x1), some (.int x2)], [.int x1, .ref 1000002])) rfl) ?_
    obtain ⟨y1, hy1, h⟩ := okb h
    refine go_step (F1 := (5, [some (.ref 1000002), some (.int x1), some (.int x2)], [.int y1])) (M1 := (H, z)) (fun _ => ev_call (x := (.invokestatic 42, 3, 159, 11, 649, .null)) (as := [.ref 1000002, .int x1]) (rest := []) rfl rfl (C_L_cell (S := S) (d := d) (z := z) (x1 := x1) u_1000002 hy1) rfl) ?_
    refine go_step (fun _ => ev_run 3 (F' := (8, [some (.ref 1000002), some (.int x1), some (.int x2)], [.int x2, .int (xus y1 (3 : Int32))])) rfl) ?_
    obtain ⟨d8, h⟩ := okd h
    refine go_step (fun _ => ev_rem rfl d8) ?_
    cases h
    exact Or.inr ⟨_, ev_ret rfl rfl rfl rfl, rfl⟩
  obtain ⟨_, hE, rfl⟩ := go_end G
  exact hE
def q_L_mirrored_L5 (x0 : Int64) (x2 : Int32) : Nat → Int64 → Int32 → Option (Int64 × Int32)
  | 0, _, _ => none
  | n + 1, l3, l5 => (if x2 ≤ l5 then (some (l3, l5)) else (q_L_mirrored_L5 x0 x2 n (l3 ||| (((xul x0 l5) &&& (1 : Int64)) <<< (((x2 - (1 : Int32)) - l5).toInt64 &&& (63 : Int64)))) (l5 + (1 : Int32))))
def q_L_mirrored (x0 : Int64) (x2 : Int32) : Option Int64 := ((q_L_mirrored_L5 x0 x2 10000 (0 : Int64) (0 : Int32)).bind (fun y1 => (some y1.1)))
theorem L_L_mirrored_L5 {S : Nat × (Nat → Int32)} {d : Nat} {z : Bool × Nat × Nat} {x0 : Int64} {x2 : Int32} {H : List xE} : ∀ (n : Nat) (l3 : Int64) (l5 : Int32) x, q_L_mirrored_L5 x0 x2 n l3 l5 = some x → Go S d 161 (5, [some (.long x0), none, some (.int x2), some (.long l3), none, some (.int l5)], []) (H, z) (fun F' M' =>  F' = (33, [none, none, none, some (.long x.1), none, none], []) ∧ M' = (H, z)) (fun _ => False) := by
  intro n
  induction n with
  | zero =>
    intro l3 l5 x h
    unfold q_L_mirrored_L5 at h
    cases h
  | succ n ih =>
    intro l3 l5 x h
    unfold q_L_mirrored_L5 at h
    refine go_step (fun _ => ev_run 2 (F' := (8, [some (.long x0), none, some (.int x2), some (.long l3), none, some (.int l5)], [.int x2, .int l5])) rfl) ?_
    refine go_icmp rfl (fun (b8 : x2 ≤ l5) => ?_) (fun (b8 : ¬ (x2 ≤ l5)) => ?_)
    · have h := (if_pos b8).symm.trans h
      refine go_step (fun _ => ev_forget (L' := [none, none, none, some (.long l3), none, none]) (show xleP _ [some (.long x0), none, some (.int x2), some (.long l3), none, some (.int l5)] from ⟨rfl, trivial⟩) rfl) ?_
      cases h
      exact Or.inl ⟨_, _, fun r hr => hr, rfl, rfl⟩
    · have h := (if_neg b8).symm.trans h
      refine go_step (fun _ => ev_run 16 (F' := (5, [some (.long x0), none, some (.int x2), some (.long (l3 ||| (((xul x0 l5) &&& (1 : Int64)) <<< (((x2 - (1 : Int32)) - l5).toInt64 &&& (63 : Int64))))), none, some (.int (l5 + (1 : Int32)))], [])) rfl) ?_
      exact ih (l3 ||| (((xul x0 l5) &&& (1 : Int64)) <<< (((x2 - (1 : Int32)) - l5).toInt64 &&& (63 : Int64)))) (l5 + (1 : Int32)) _ h
theorem C_L_mirrored {S : Nat × (Nat → Int32)} {d : Nat} {H : List xE} {z : Bool × Nat × Nat} {x0 : Int64} {x2 : Int32} {x : Int64} (h : q_L_mirrored x0 x2 = some x) : Cm S d 161 [.long x0, .int x2] (H, z) (.inr (some (.long x)), (H, z)) := by
  have G : Go S d 161 (0, [some (.long x0), none, some (.int x2), none, none, none], []) (H, z) (fun _ _ => False) (fun r => r = (.inr (some (.long x)), (H, z))) := by
    unfold q_L_mirrored at h
    refine go_step (fun _ => ev_run 4 (F' := (5, [some (.long x0), none, some (.int x2), some (.long (0 : Int64)), none, some (.int (0 : Int32))], [])) rfl) ?_
    obtain ⟨y1, hy1, h⟩ := okb h
    obtain ⟨_, _, hr2, rfl, rfl⟩ := go_nr (L_L_mirrored_L5 (S := S) (d := d) (z := z) (x0 := x0) (x2 := x2) 10000 (0 : Int64) (0 : Int32) _ hy1)
    refine go_step hr2 ?_
    refine go_step (fun _ => ev_run 1 (F' := (34, [none, none, none, some (.long y1.1), none, none], [.long y1.1])) rfl) ?_
    cases h
    exact Or.inr ⟨_, ev_ret rfl rfl rfl rfl, rfl⟩
  obtain ⟨_, hE, rfl⟩ := go_end G
  exact hE
def q_L_put (x1 : Int32) (x2 : Int32) (c1_1 : Int32) (c3_1 : Int32) (c3_2 : Int32) (c4_0 : Int32) (a6 : Nat → Int32) (a5 : Nat → Int32) (a2 : Nat → Int32) : Option (Int32 × Bool × Int32 × Int32 × (Nat → Int32) × (Nat → Int32) × (Nat → Int32)) := (xbnd (q_X11_put x1 x2 c1_1 c3_1 c3_2 c4_0 a6 a5 a2) (fun e2 y1 => (if e2 = 2 then (some ((-1 : Int32), true, y1.1, y1.2.1, y1.2.2.1, y1.2.2.2.1, y1.2.2.2.2)) else if e2 = 0 then (some ((-2 : Int32), true, y1.1, y1.2.1, y1.2.2.1, y1.2.2.2.1, y1.2.2.2.2)) else none)) (fun v3 y4 => (some (v3, false, y4.1, y4.2.1, y4.2.2.1, y4.2.2.2.1, y4.2.2.2.2))))
theorem C_L_put {S : Nat × (Nat → Int32)} {d : Nat} {H : List xE} {z : Bool × Nat × Nat} {c1_1 : Int32} {c3_1 : Int32} {c3_2 : Int32} {c4_0 : Int32} {a6 : Nat → Int32} {a5 : Nat → Int32} {a2 : Nat → Int32} {x1 : Int32} {x2 : Int32} (u_1 : H[1]? = some (.inr (4, [.ref 2, .int c1_1]))) (u_3 : H[3]? = some (.inr (2, [.ref 4, .int c3_1, .int c3_2]))) (u_4 : H[4]? = some (.inr (7, [.int c4_0, .ref 5, .ref 6]))) (u_6 : H[6]? = some (.inl (0, 10, .inl a6))) (u_5 : H[5]? = some (.inl (0, 640, .inl a5))) (u_2 : H[2]? = some (.inl (0, 64, .inl a2))) (u_0 : H[0]? = some (oO)) {x : (Int32 × Bool × Int32 × Int32 × (Nat → Int32) × (Nat → Int32) × (Nat → Int32))} (h : q_L_put x1 x2 c1_1 c3_1 c3_2 c4_0 a6 a5 a2 = some x) : ∃ H' : List xE, Cm S (d + 4) 163 [.ref 0, .int x1, .int x2] (H, z) (.inr (some (.int x.1)), (H', zX x.2.1 z)) ∧ H'[3]? = some (.inr (2, [.ref 4, .int x.2.2.1, .int x.2.2.2.1])) ∧ H'[6]? = some (.inl (0, 10, .inl x.2.2.2.2.1)) ∧ H'[5]? = some (.inl (0, 640, .inl x.2.2.2.2.2.1)) ∧ H'[2]? = some (.inl (0, 64, .inl x.2.2.2.2.2.2)) ∧ xfr [3, 6, 5, 2] H H' := by
  have G : Go S (d + 4) 163 (0, [some (.ref 0), some (.int x1), some (.int x2), none], []) (H, z) (fun _ _ => False) (fun r => ∃ H' : List xE, r = (.inr (some (.int x.1)), (H', zX x.2.1 z)) ∧ H'[3]? = some (.inr (2, [.ref 4, .int x.2.2.1, .int x.2.2.2.1])) ∧ H'[6]? = some (.inl (0, 10, .inl x.2.2.2.2.1)) ∧ H'[5]? = some (.inl (0, 640, .inl x.2.2.2.2.2.1)) ∧ H'[2]? = some (.inl (0, 64, .inl x.2.2.2.2.2.2)) ∧ xfr [3, 6, 5, 2] H H') := by
    unfold q_L_put at h
    refine go_step (fun _ => ev_run 3 (F' := (3, [some (.ref 0), some (.int x1), some (.int x2), none], [.int x2, .int x1, .ref 0])) rfl) ?_
    rcases okx h with ⟨e2, y1, hy1, h⟩ | ⟨v3, y4, hy4, h⟩
    · skip
      obtain ⟨H5, hCH5, eH5_3, eH5_6, eH5_5, eH5_2, fH5⟩ := C_X11_put (S := S) (d := d) (z := z) (x1 := x1) (x2 := x2) u_1 u_0 u_3 u_4 u_6 u_5 u_2 hy1
      by_cases s2 : e2 = 2
      · have h := (if_pos s2).symm.trans h
        subst s2
        refine go_step (F1 := (8, [some (.ref 0), some (.int x1), some (.int x2), none], [])) (M1 := (H5, (z.1, z.2.1 + 1, z.2.2 + 6))) (fun _ => ev_callVC (x := (.invokevirtual 50, 3, 102, 10, 757, .null)) (as := [.int x1, .int x2]) (rest := []) rfl rfl u_0 rfl rfl hCH5 rfl) ?_
        refine go_step (fun _ => ev_run 1 (F' := (9, [some (.ref 0), some (.int x1), some (.int x2), none], [.int (-1 : Int32)])) rfl) ?_
        cases h
        exact Or.inr ⟨_, ev_ret rfl rfl rfl rfl, H5, rfl, eH5_3, eH5_6, eH5_5, eH5_2, (xfr_t xfr_refl rfl fH5)⟩
      · have h := (if_neg s2).symm.trans h
        by_cases s0 : e2 = 0
        · have h := (if_pos s0).symm.trans h
          subst s0
          refine go_step (F1 := (11, [some (.ref 0), some (.int x1), some (.int x2), none], [])) (M1 := (H5, (z.1, z.2.1 + 1, z.2.2 + 6))) (fun _ => ev_callVC (x := (.invokevirtual 50, 3, 102, 10, 757, .null)) (as := [.int x1, .int x2]) (rest := []) rfl rfl u_0 rfl rfl hCH5 rfl) ?_
          refine go_step (fun _ => ev_run 1 (F' := (13, [some (.ref 0), some (.int x1), some (.int x2), none], [.int (-2 : Int32)])) rfl) ?_
          cases h
          exact Or.inr ⟨_, ev_ret rfl rfl rfl rfl, H5, rfl, eH5_3, eH5_6, eH5_5, eH5_2, (xfr_t xfr_refl rfl fH5)⟩
        · have h := (if_neg s0).symm.trans h
          cases h
    · skip
      obtain ⟨H6, hCH6, eH6_3, eH6_6, eH6_5, eH6_2, fH6⟩ := C_X11_put (S := S) (d := d) (z := z) (x1 := x1) (x2 := x2) u_1 u_0 u_3 u_4 u_6 u_5 u_2 hy4
      refine go_step (F1 := (6, [some (.ref 0), some (.int x1), some (.int x2), none], [.int v3])) (M1 := (H6, z)) (fun _ => ev_callV (x := (.invokevirtual 50, 3, 102, 10, 757, .null)) (as := [.int x1, .int x2]) (rest := []) rfl rfl u_0 hCH6 rfl) ?_
      cases h
      exact Or.inr ⟨_, ev_ret rfl rfl rfl rfl, H6, rfl, eH6_3, eH6_6, eH6_5, eH6_2, (xfr_t xfr_refl rfl fH6)⟩
  obtain ⟨_, hE, H', rfl, hrest⟩ := go_end G
  exact ⟨H', hE, hrest⟩
def q_L_forge (x1 : Int32) (x2 : Int64) (c1_1 : Int32) (a2 : Nat → Int32) (c3_1 : Int32) (c3_2 : Int32) (c4_0 : Int32) (a6 : Nat → Int32) (a5 : Nat → Int32) : Option (Int32 × Bool × (Nat → Int32) × Int32 × Int32 × (Nat → Int32) × (Nat → Int32)) := (xbnd (q_X11_forge x1 x2 c1_1 a2 c3_1 c3_2 c4_0 a6 a5) (fun e2 y1 => (if e2 = 2 then (some ((-1 : Int32), true, y1.1, y1.2.1, y1.2.2.1, y1.2.2.2.1, y1.2.2.2.2)) else if e2 = 0 then (some ((-2 : Int32), true, y1.1, y1.2.1, y1.2.2.1, y1.2.2.2.1, y1.2.2.2.2)) else none)) (fun v3 y4 => (some ((v3 &&& (0 : Int32)), false, y4.1, y4.2.1, y4.2.2.1, y4.2.2.2.1, y4.2.2.2.2))))
theorem C_L_forge {S : Nat × (Nat → Int32)} {d : Nat} {H : List xE} {z : Bool × Nat × Nat} {c1_1 : Int32} {a2 : Nat → Int32} {c3_1 : Int32} {c3_2 : Int32} {c4_0 : Int32} {a6 : Nat → Int32} {a5 : Nat → Int32} {x1 : Int32} {x2 : Int64} (u_1 : H[1]? = some (.inr (4, [.ref 2, .int c1_1]))) (u_2 : H[2]? = some (.inl (0, 64, .inl a2))) (u_3 : H[3]? = some (.inr (2, [.ref 4, .int c3_1, .int c3_2]))) (u_4 : H[4]? = some (.inr (7, [.int c4_0, .ref 5, .ref 6]))) (u_6 : H[6]? = some (.inl (0, 10, .inl a6))) (u_5 : H[5]? = some (.inl (0, 640, .inl a5))) (u_0 : H[0]? = some (oO)) {x : (Int32 × Bool × (Nat → Int32) × Int32 × Int32 × (Nat → Int32) × (Nat → Int32))} (h : q_L_forge x1 x2 c1_1 a2 c3_1 c3_2 c4_0 a6 a5 = some x) : ∃ H' : List xE, Cm S (d + 4) 164 [.ref 0, .int x1, .long x2] (H, z) (.inr (some (.int x.1)), (H', zX x.2.1 z)) ∧ H'[2]? = some (.inl (0, 64, .inl x.2.2.1)) ∧ H'[3]? = some (.inr (2, [.ref 4, .int x.2.2.2.1, .int x.2.2.2.2.1])) ∧ H'[6]? = some (.inl (0, 10, .inl x.2.2.2.2.2.1)) ∧ H'[5]? = some (.inl (0, 640, .inl x.2.2.2.2.2.2)) ∧ xfr [2, 3, 6, 5] H H' := by
  have G : Go S (d + 4) 164 (0, [some (.ref 0), some (.int x1), some (.long x2), none, none], []) (H, z) (fun _ _ => False) (fun r => ∃ H' : List xE, r = (.inr (some (.int x.1)), (H', zX x.2.1 z)) ∧ H'[2]? = some (.inl (0, 64, .inl x.2.2.1)) ∧ H'[3]? = some (.inr (2, [.ref 4, .int x.2.2.2.1, .int x.2.2.2.2.1])) ∧ H'[6]? = some (.inl (0, 10, .inl x.2.2.2.2.2.1)) ∧ H'[5]? = some (.inl (0, 640, .inl x.2.2.2.2.2.2)) ∧ xfr [2, 3, 6, 5] H H') := by
    unfold q_L_forge at h
    refine go_step (fun _ => ev_run 3 (F' := (3, [some (.ref 0), some (.int x1), some (.long x2), none, none], [.long x2, .int x1, .ref 0])) rfl) ?_
    rcases okx h with ⟨e2, y1, hy1, h⟩ | ⟨v3, y4, hy4, h⟩
    · skip
      obtain ⟨H5, hCH5, eH5_2, eH5_3, eH5_6, eH5_5, fH5⟩ := C_X11_forge (S := S) (d := d) (z := z) (x1 := x1) (x2 := x2) u_0 u_1 u_2 u_3 u_4 u_6 u_5 hy1
      by_cases s2 : e2 = 2
      · have h := (if_pos s2).symm.trans h
        subst s2
        refine go_step (F1 := (11, [some (.ref 0), some (.int x1), some (.long x2), none, none], [])) (M1 := (H5, (z.1, z.2.1 + 1, z.2.2 + 6))) (fun _ => ev_callVC (x := (.invokevirtual 60, 3, 110, 10, 741, .null)) (as := [.int x1, .long x2]) (rest := []) rfl rfl u_0 rfl rfl hCH5 rfl) ?_
        refine go_step (fun _ => ev_run 1 (F' := (12, [some (.ref 0), some (.int x1), some (.long x2), none, none], [.int (-1 : Int32)])) rfl) ?_
        cases h
        exact Or.inr ⟨_, ev_ret rfl rfl rfl rfl, H5, rfl, eH5_2, eH5_3, eH5_6, eH5_5, (xfr_t xfr_refl rfl fH5)⟩
      · have h := (if_neg s2).symm.trans h
        by_cases s0 : e2 = 0
        · have h := (if_pos s0).symm.trans h
          subst s0
          refine go_step (F1 := (15, [some (.ref 0), some (.int x1), some (.long x2), none, none], [])) (M1 := (H5, (z.1, z.2.1 + 1, z.2.2 + 6))) (fun _ => ev_callVC (x := (.invokevirtual 60, 3, 110, 10, 741, .null)) (as := [.int x1, .long x2]) (rest := []) rfl rfl u_0 rfl rfl hCH5 rfl) ?_
          refine go_step (fun _ => ev_run 1 (F' := (17, [some (.ref 0), some (.int x1), some (.long x2), none, none], [.int (-2 : Int32)])) rfl) ?_
          cases h
          exact Or.inr ⟨_, ev_ret rfl rfl rfl rfl, H5, rfl, eH5_2, eH5_3, eH5_6, eH5_5, (xfr_t xfr_refl rfl fH5)⟩
        · have h := (if_neg s0).symm.trans h
          cases h
    · skip
      obtain ⟨H6, hCH6, eH6_2, eH6_3, eH6_6, eH6_5, fH6⟩ := C_X11_forge (S := S) (d := d) (z := z) (x1 := x1) (x2 := x2) u_0 u_1 u_2 u_3 u_4 u_6 u_5 hy4
      refine go_step (F1 := (6, [some (.ref 0), some (.int x1), some (.long x2), none, none], [.int v3])) (M1 := (H6, z)) (fun _ => ev_callV (x := (.invokevirtual 60, 3, 110, 10, 741, .null)) (as := [.int x1, .long x2]) (rest := []) rfl rfl u_0 hCH6 rfl) ?_
      refine go_step (fun _ => ev_run 2 (F' := (8, [some (.ref 0), some (.int x1), some (.long x2), none, none], [.int (v3 &&& (0 : Int32))])) rfl) ?_
      cases h
      exact Or.inr ⟨_, ev_ret rfl rfl rfl rfl, H6, rfl, eH6_2, eH6_3, eH6_6, eH6_5, (xfr_t xfr_refl rfl fH6)⟩
  obtain ⟨_, hE, H', rfl, hrest⟩ := go_end G
  exact ⟨H', hE, hrest⟩
def q_L_undo (c3_1 : Int32) (c3_2 : Int32) (c4_0 : Int32) (a6 : Nat → Int32) (a5 : Nat → Int32) (a2 : Nat → Int32) (c1_1 : Int32) : Option (Int32 × Bool × Int32 × Int32 × (Nat → Int32) × Int32) := (xbnd (q_X11_undo c3_1 c3_2 c4_0 a6 a5 a2 c1_1) (fun e2 y1 => (if e2 = 3 then (some ((-1 : Int32), true, y1.1, y1.2.1, y1.2.2.1, y1.2.2.2)) else none)) (fun v3 y4 => (some (v3, false, y4.1, y4.2.1, y4.2.2.1, y4.2.2.2))))
theorem C_L_undo {S : Nat × (Nat → Int32)} {d : Nat} {H : List xE} {z : Bool × Nat × Nat} {c3_1 : Int32} {c3_2 : Int32} {c4_0 : Int32} {a6 : Nat → Int32} {a5 : Nat → Int32} {a2 : Nat → Int32} {c1_1 : Int32} (u_3 : H[3]? = some (.inr (2, [.ref 4, .int c3_1, .int c3_2]))) (u_4 : H[4]? = some (.inr (7, [.int c4_0, .ref 5, .ref 6]))) (u_6 : H[6]? = some (.inl (0, 10, .inl a6))) (u_5 : H[5]? = some (.inl (0, 640, .inl a5))) (u_2 : H[2]? = some (.inl (0, 64, .inl a2))) (u_1 : H[1]? = some (.inr (4, [.ref 2, .int c1_1]))) (u_0 : H[0]? = some (oO)) {x : (Int32 × Bool × Int32 × Int32 × (Nat → Int32) × Int32)} (h : q_L_undo c3_1 c3_2 c4_0 a6 a5 a2 c1_1 = some x) : ∃ H' : List xE, Cm S (d + 6) 165 [.ref 0] (H, z) (.inr (some (.int x.1)), (H', zX x.2.1 z)) ∧ H'[3]? = some (.inr (2, [.ref 4, .int x.2.2.1, .int x.2.2.2.1])) ∧ H'[2]? = some (.inl (0, 64, .inl x.2.2.2.2.1)) ∧ H'[1]? = some (.inr (4, [.ref 2, .int x.2.2.2.2.2])) ∧ xfr [3, 2, 1] H H' := by
  have G : Go S (d + 6) 165 (0, [some (.ref 0), none], []) (H, z) (fun _ _ => False) (fun r => ∃ H' : List xE, r = (.inr (some (.int x.1)), (H', zX x.2.1 z)) ∧ H'[3]? = some (.inr (2, [.ref 4, .int x.2.2.1, .int x.2.2.2.1])) ∧ H'[2]? = some (.inl (0, 64, .inl x.2.2.2.2.1)) ∧ H'[1]? = some (.inr (4, [.ref 2, .int x.2.2.2.2.2])) ∧ xfr [3, 2, 1] H H') := by
    unfold q_L_undo at h
    refine go_step (fun _ => ev_run 1 (F' := (1, [some (.ref 0), none], [.ref 0])) rfl) ?_
    rcases okx h with ⟨e2, y1, hy1, h⟩ | ⟨v3, y4, hy4, h⟩
    · skip
      obtain ⟨H5, hCH5, eH5_3, eH5_2, eH5_1, fH5⟩ := C_X11_undo (S := S) (d := d) (z := z) u_0 u_3 u_4 u_6 u_5 u_2 u_1 hy1
      by_cases s3 : e2 = 3
      · have h := (if_pos s3).symm.trans h
        subst s3
        refine go_step (F1 := (6, [some (.ref 0), none], [])) (M1 := (H5, (z.1, z.2.1 + 1, z.2.2 + 6))) (fun _ => ev_callVC (x := (.invokevirtual 64, 3, 103, 10, 765, .null)) (as := []) (rest := []) rfl rfl u_0 rfl rfl hCH5 rfl) ?_
        refine go_step (fun _ => ev_run 1 (F' := (7, [some (.ref 0), none], [.int (-1 : Int32)])) rfl) ?_
        cases h
        exact Or.inr ⟨_, ev_ret rfl rfl rfl rfl, H5, rfl, eH5_3, eH5_2, eH5_1, (xfr_t xfr_refl rfl fH5)⟩
      · have h := (if_neg s3).symm.trans h
        cases h
    · skip
      obtain ⟨H6, hCH6, eH6_3, eH6_2, eH6_1, fH6⟩ := C_X11_undo (S := S) (d := d) (z := z) u_0 u_3 u_4 u_6 u_5 u_2 u_1 hy4
      refine go_step (F1 := (4, [some (.ref 0), none], [.int v3])) (M1 := (H6, z)) (fun _ => ev_callV (x := (.invokevirtual 64, 3, 103, 10, 765, .null)) (as := []) (rest := []) rfl rfl u_0 hCH6 rfl) ?_
      cases h
      exact Or.inr ⟨_, ev_ret rfl rfl rfl rfl, H6, rfl, eH6_3, eH6_2, eH6_1, (xfr_t xfr_refl rfl fH6)⟩
  obtain ⟨_, hE, H', rfl, hrest⟩ := go_end G
  exact ⟨H', hE, hrest⟩
def q_L_divide (x1 : Int32) (x2 : Int32) (x3 : Int32) (x4 : Int32) (a10 : Nat → Int64) (a11 : Nat → Int64) (c12_0 : Int64) (c12_1 : Int64) (c13_0 : Int64) (c13_1 : Int64) (c14_0 : Int64) (c14_1 : Int64) : Option (Int32 × Bool × (Nat → Int64) × (Nat → Int64) × Int64 × Int64 × Int64 × Int64 × Int64 × Int64) := (xbnd (q_X11_divide x1 x2 x3 x4 a10 a11 c12_0 c12_1 c13_0 c13_1 c14_0 c14_1) (fun e2 y1 => (if e2 = 2 then (some ((-11 : Int32), true, y1.1, y1.2.1, y1.2.2.1, y1.2.2.2.1, y1.2.2.2.2.1, y1.2.2.2.2.2.1, y1.2.2.2.2.2.2.1, y1.2.2.2.2.2.2.2)) else if e2 = 0 then (some ((-12 : Int32), true, y1.1, y1.2.1, y1.2.2.1, y1.2.2.2.1, y1.2.2.2.2.1, y1.2.2.2.2.2.1, y1.2.2.2.2.2.2.1, y1.2.2.2.2.2.2.2)) else if e2 = 4 then (some ((-13 : Int32), true, y1.1, y1.2.1, y1.2.2.1, y1.2.2.2.1, y1.2.2.2.2.1, y1.2.2.2.2.2.1, y1.2.2.2.2.2.2.1, y1.2.2.2.2.2.2.2)) else none)) (fun v3 y4 => (some (v3, false, y4.1, y4.2.1, y4.2.2.1, y4.2.2.2.1, y4.2.2.2.2.1, y4.2.2.2.2.2.1, y4.2.2.2.2.2.2.1, y4.2.2.2.2.2.2.2))))
theorem C_L_divide {S : Nat × (Nat → Int32)} {d : Nat} {H : List xE} {z : Bool × Nat × Nat} {a10 : Nat → Int64} {a11 : Nat → Int64} {c12_0 : Int64} {c12_1 : Int64} {c13_0 : Int64} {c13_1 : Int64} {c14_0 : Int64} {c14_1 : Int64} {x1 : Int32} {x2 : Int32} {x3 : Int32} {x4 : Int32} (u_10 : H[10]? = some (.inl (1, 8, .inr (.inl a10)))) (u_11 : H[11]? = some (.inl (1, 8, .inr (.inl a11)))) (u_12 : H[12]? = some (.inr (3, [.long c12_0, .long c12_1]))) (u_13 : H[13]? = some (.inr (3, [.long c13_0, .long c13_1]))) (u_14 : H[14]? = some (.inr (3, [.long c14_0, .long c14_1]))) (u_0 : H[0]? = some (oO)) {x : (Int32 × Bool × (Nat → Int64) × (Nat → Int64) × Int64 × Int64 × Int64 × Int64 × Int64 × Int64)} (h : q_L_divide x1 x2 x3 x4 a10 a11 c12_0 c12_1 c13_0 c13_1 c14_0 c14_1 = some x) : ∃ H' : List xE, Cm S (d + 4) 166 [.ref 0, .int x1, .int x2, .int x3, .int x4] (H, z) (.inr (some (.int x.1)), (H', zX x.2.1 z)) ∧ H'[10]? = some (.inl (1, 8, .inr (.inl x.2.2.1))) ∧ H'[11]? = some (.inl (1, 8, .inr (.inl x.2.2.2.1))) ∧ H'[12]? = some (.inr (3, [.long x.2.2.2.2.1, .long x.2.2.2.2.2.1])) ∧ H'[13]? = some (.inr (3, [.long x.2.2.2.2.2.2.1, .long x.2.2.2.2.2.2.2.1])) ∧ H'[14]? = some (.inr (3, [.long x.2.2.2.2.2.2.2.2.1, .long x.2.2.2.2.2.2.2.2.2])) ∧ xfr [10, 11, 12, 13, 14] H H' := by
  have G : Go S (d + 4) 166 (0, [some (.ref 0), some (.int x1), some (.int x2), some (.int x3), some (.int x4), none], []) (H, z) (fun _ _ => False) (fun r => ∃ H' : List xE, r = (.inr (some (.int x.1)), (H', zX x.2.1 z)) ∧ H'[10]? = some (.inl (1, 8, .inr (.inl x.2.2.1))) ∧ H'[11]? = some (.inl (1, 8, .inr (.inl x.2.2.2.1))) ∧ H'[12]? = some (.inr (3, [.long x.2.2.2.2.1, .long x.2.2.2.2.2.1])) ∧ H'[13]? = some (.inr (3, [.long x.2.2.2.2.2.2.1, .long x.2.2.2.2.2.2.2.1])) ∧ H'[14]? = some (.inr (3, [.long x.2.2.2.2.2.2.2.2.1, .long x.2.2.2.2.2.2.2.2.2])) ∧ xfr [10, 11, 12, 13, 14] H H') := by
    unfold q_L_divide at h
    refine go_step (fun _ => ev_run 5 (F' := (6, [some (.ref 0), some (.int x1), some (.int x2), some (.int x3), some (.int x4), none], [.int x4, .int x3, .int x2, .int x1, .ref 0])) rfl) ?_
    rcases okx h with ⟨e2, y1, hy1, h⟩ | ⟨v3, y4, hy4, h⟩
    · skip
      obtain ⟨H5, hCH5, eH5_10, eH5_11, eH5_12, eH5_13, eH5_14, fH5⟩ := C_X11_divide (S := S) (d := d) (z := z) (x1 := x1) (x2 := x2) (x3 := x3) (x4 := x4) u_0 u_10 u_11 u_12 u_13 u_14 hy1
      by_cases s2 : e2 = 2
      · have h := (if_pos s2).symm.trans h
        subst s2
        refine go_step (F1 := (12, [some (.ref 0), some (.int x1), some (.int x2), some (.int x3), some (.int x4), none], [])) (M1 := (H5, (z.1, z.2.1 + 1, z.2.2 + 6))) (fun _ => ev_callVC (x := (.invokevirtual 70, 3, 115, 10, 906, .null)) (as := [.int x1, .int x2, .int x3, .int x4]) (rest := []) rfl rfl u_0 rfl rfl hCH5 rfl) ?_
        refine go_step (fun _ => ev_run 1 (F' := (14, [some (.ref 0), some (.int x1), some (.int x2), some (.int x3), some (.int x4), none], [.int (-11 : Int32)])) rfl) ?_
        cases h
        exact Or.inr ⟨_, ev_ret rfl rfl rfl rfl, H5, rfl, eH5_10, eH5_11, eH5_12, eH5_13, eH5_14, (xfr_t xfr_refl rfl fH5)⟩
      · have h := (if_neg s2).symm.trans h
        by_cases s0 : e2 = 0
        · have h := (if_pos s0).symm.trans h
          subst s0
          refine go_step (F1 := (17, [some (.ref 0), some (.int x1), some (.int x2), some (.int x3), some (.int x4), none], [])) (M1 := (H5, (z.1, z.2.1 + 1, z.2.2 + 6))) (fun _ => ev_callVC (x := (.invokevirtual 70, 3, 115, 10, 906, .null)) (as := [.int x1, .int x2, .int x3, .int x4]) (rest := []) rfl rfl u_0 rfl rfl hCH5 rfl) ?_
          refine go_step (fun _ => ev_run 1 (F' := (19, [some (.ref 0), some (.int x1), some (.int x2), some (.int x3), some (.int x4), none], [.int (-12 : Int32)])) rfl) ?_
          cases h
          exact Or.inr ⟨_, ev_ret rfl rfl rfl rfl, H5, rfl, eH5_10, eH5_11, eH5_12, eH5_13, eH5_14, (xfr_t xfr_refl rfl fH5)⟩
        · have h := (if_neg s0).symm.trans h
          by_cases s4 : e2 = 4
          · have h := (if_pos s4).symm.trans h
            subst s4
            refine go_step (F1 := (22, [some (.ref 0), some (.int x1), some (.int x2), some (.int x3), some (.int x4), none], [])) (M1 := (H5, (z.1, z.2.1 + 1, z.2.2 + 6))) (fun _ => ev_callVC (x := (.invokevirtual 70, 3, 115, 10, 906, .null)) (as := [.int x1, .int x2, .int x3, .int x4]) (rest := []) rfl rfl u_0 rfl rfl hCH5 rfl) ?_
            refine go_step (fun _ => ev_run 1 (F' := (24, [some (.ref 0), some (.int x1), some (.int x2), some (.int x3), some (.int x4), none], [.int (-13 : Int32)])) rfl) ?_
            cases h
            exact Or.inr ⟨_, ev_ret rfl rfl rfl rfl, H5, rfl, eH5_10, eH5_11, eH5_12, eH5_13, eH5_14, (xfr_t xfr_refl rfl fH5)⟩
          · have h := (if_neg s4).symm.trans h
            cases h
    · skip
      obtain ⟨H6, hCH6, eH6_10, eH6_11, eH6_12, eH6_13, eH6_14, fH6⟩ := C_X11_divide (S := S) (d := d) (z := z) (x1 := x1) (x2 := x2) (x3 := x3) (x4 := x4) u_0 u_10 u_11 u_12 u_13 u_14 hy4
      refine go_step (F1 := (9, [some (.ref 0), some (.int x1), some (.int x2), some (.int x3), some (.int x4), none], [.int v3])) (M1 := (H6, z)) (fun _ => ev_callV (x := (.invokevirtual 70, 3, 115, 10, 906, .null)) (as := [.int x1, .int x2, .int x3, .int x4]) (rest := []) rfl rfl u_0 hCH6 rfl) ?_
      cases h
      exact Or.inr ⟨_, ev_ret rfl rfl rfl rfl, H6, rfl, eH6_10, eH6_11, eH6_12, eH6_13, eH6_14, (xfr_t xfr_refl rfl fH6)⟩
  obtain ⟨_, hE, H', rfl, hrest⟩ := go_end G
  exact ⟨H', hE, hrest⟩
def q_L_order (x1 : Int32) (a10 : Nat → Int64) (a11 : Nat → Int64) (c12_0 : Int64) (c12_1 : Int64) : Option (Int32 × Bool × Int64 × Int64) := (xbnd (q_X11_order x1 a10 a11 c12_0 c12_1) (fun e2 y1 => (if e2 = 5 then (some ((-2 : Int32), true, y1.1, y1.2)) else if e2 = 3 then (some ((-3 : Int32), true, y1.1, y1.2)) else none)) (fun v3 y4 => (some (v3, false, y4.1, y4.2))))
theorem C_L_order {S : Nat × (Nat → Int32)} {d : Nat} {H : List xE} {z : Bool × Nat × Nat} {a10 : Nat → Int64} {a11 : Nat → Int64} {c12_0 : Int64} {c12_1 : Int64} {x1 : Int32} (u_10 : H[10]? = some (.inl (1, 8, .inr (.inl a10)))) (u_11 : H[11]? = some (.inl (1, 8, .inr (.inl a11)))) (u_12 : H[12]? = some (.inr (3, [.long c12_0, .long c12_1]))) (u_0 : H[0]? = some (oO)) {x : (Int32 × Bool × Int64 × Int64)} (h : q_L_order x1 a10 a11 c12_0 c12_1 = some x) : ∃ H' : List xE, Cm S (d + 4) 167 [.ref 0, .int x1] (H, z) (.inr (some (.int x.1)), (H', zX x.2.1 z)) ∧ H'[12]? = some (.inr (3, [.long x.2.2.1, .long x.2.2.2])) ∧ xfr [12] H H' := by
  have G : Go S (d + 4) 167 (0, [some (.ref 0), some (.int x1), none], []) (H, z) (fun _ _ => False) (fun r => ∃ H' : List xE, r = (.inr (some (.int x.1)), (H', zX x.2.1 z)) ∧ H'[12]? = some (.inr (3, [.long x.2.2.1, .long x.2.2.2])) ∧ xfr [12] H H') := by
    unfold q_L_order at h
    refine go_step (fun _ => ev_run 2 (F' := (2, [some (.ref 0), some (.int x1), none], [.int x1, .ref 0])) rfl) ?_
    rcases okx h with ⟨e2, y1, hy1, h⟩ | ⟨v3, y4, hy4, h⟩
    · skip
      obtain ⟨H5, hCH5, eH5_12, fH5⟩ := C_X11_order (S := S) (d := d) (z := z) (x1 := x1) u_10 u_11 u_12 u_0 hy1
      by_cases s5 : e2 = 5
      · have h := (if_pos s5).symm.trans h
        subst s5
        refine go_step (F1 := (7, [some (.ref 0), some (.int x1), none], [])) (M1 := (H5, (z.1, z.2.1 + 1, z.2.2 + 6))) (fun _ => ev_callVC (x := (.invokevirtual 76, 3, 117, 10, 929, .null)) (as := [.int x1]) (rest := []) rfl rfl u_0 rfl rfl hCH5 rfl) ?_
        refine go_step (fun _ => ev_run 1 (F' := (9, [some (.ref 0), some (.int x1), none], [.int (-2 : Int32)])) rfl) ?_
        cases h
        exact Or.inr ⟨_, ev_ret rfl rfl rfl rfl, H5, rfl, eH5_12, (xfr_t xfr_refl rfl fH5)⟩
      · have h := (if_neg s5).symm.trans h
        by_cases s3 : e2 = 3
        · have h := (if_pos s3).symm.trans h
          subst s3
          refine go_step (F1 := (11, [some (.ref 0), some (.int x1), none], [])) (M1 := (H5, (z.1, z.2.1 + 1, z.2.2 + 6))) (fun _ => ev_callVC (x := (.invokevirtual 76, 3, 117, 10, 929, .null)) (as := [.int x1]) (rest := []) rfl rfl u_0 rfl rfl hCH5 rfl) ?_
          refine go_step (fun _ => ev_run 1 (F' := (13, [some (.ref 0), some (.int x1), none], [.int (-3 : Int32)])) rfl) ?_
          cases h
          exact Or.inr ⟨_, ev_ret rfl rfl rfl rfl, H5, rfl, eH5_12, (xfr_t xfr_refl rfl fH5)⟩
        · have h := (if_neg s3).symm.trans h
          cases h
    · skip
      obtain ⟨H6, hCH6, eH6_12, fH6⟩ := C_X11_order (S := S) (d := d) (z := z) (x1 := x1) u_10 u_11 u_12 u_0 hy4
      refine go_step (F1 := (5, [some (.ref 0), some (.int x1), none], [.int v3])) (M1 := (H6, z)) (fun _ => ev_callV (x := (.invokevirtual 76, 3, 117, 10, 929, .null)) (as := [.int x1]) (rest := []) rfl rfl u_0 hCH6 rfl) ?_
      cases h
      exact Or.inr ⟨_, ev_ret rfl rfl rfl rfl, H6, rfl, eH6_12, (xfr_t xfr_refl rfl fH6)⟩
  obtain ⟨_, hE, H', rfl, hrest⟩ := go_end G
  exact ⟨H', hE, hrest⟩
def q_L_seen (x1 : Int32) (a10 : Nat → Int64) (a11 : Nat → Int64) (c12_0 : Int64) (c12_1 : Int64) (c8_0 : Int32) (c8_1 : Int32) (c13_0 : Int64) (c13_1 : Int64) (c14_0 : Int64) (c14_1 : Int64) : Option (Int32 × Bool × Int64 × Int64 × Int64 × Int64 × Int64 × Int64) := (xbnd (q_X11_isSeen x1 a10 a11 c12_0 c12_1 c8_0 c8_1 c13_0 c13_1 c14_0 c14_1) (fun e2 y1 => (if e2 = 4 then (some ((-2 : Int32), true, y1.1, y1.2.1, y1.2.2.1, y1.2.2.2.1, y1.2.2.2.2.1, y1.2.2.2.2.2)) else none)) (fun v3 y4 => (some ((if v3 = (0 : Int32) then (0 : Int32) else (1 : Int32)), false, y4.1, y4.2.1, y4.2.2.1, y4.2.2.2.1, y4.2.2.2.2.1, y4.2.2.2.2.2))))
theorem C_L_seen {S : Nat × (Nat → Int32)} {d : Nat} {H : List xE} {z : Bool × Nat × Nat} {a10 : Nat → Int64} {a11 : Nat → Int64} {c12_0 : Int64} {c12_1 : Int64} {c8_0 : Int32} {c8_1 : Int32} {c8_2 : Int32} {c8_3 : Int32} {c8_4 : Int32} {c8_5 : Int32} {c13_0 : Int64} {c13_1 : Int64} {c14_0 : Int64} {c14_1 : Int64} {x1 : Int32} (u_10 : H[10]? = some (.inl (1, 8, .inr (.inl a10)))) (u_11 : H[11]? = some (.inl (1, 8, .inr (.inl a11)))) (u_12 : H[12]? = some (.inr (3, [.long c12_0, .long c12_1]))) (u_8 : H[8]? = some (.inr (1, [.int c8_0, .int c8_1, .int c8_2, .int c8_3, .int c8_4, .int c8_5]))) (u_13 : H[13]? = some (.inr (3, [.long c13_0, .long c13_1]))) (u_14 : H[14]? = some (.inr (3, [.long c14_0, .long c14_1]))) (u_0 : H[0]? = some (oO)) {x : (Int32 × Bool × Int64 × Int64 × Int64 × Int64 × Int64 × Int64)} (h : q_L_seen x1 a10 a11 c12_0 c12_1 c8_0 c8_1 c13_0 c13_1 c14_0 c14_1 = some x) : ∃ H' : List xE, Cm S (d + 4) 168 [.ref 0, .int x1] (H, z) (.inr (some (.int x.1)), (H', zX x.2.1 z)) ∧ H'[12]? = some (.inr (3, [.long x.2.2.1, .long x.2.2.2.1])) ∧ H'[13]? = some (.inr (3, [.long x.2.2.2.2.1, .long x.2.2.2.2.2.1])) ∧ H'[14]? = some (.inr (3, [.long x.2.2.2.2.2.2.1, .long x.2.2.2.2.2.2.2])) ∧ xfr [12, 13, 14] H H' := by
  have G : Go S (d + 4) 168 (0, [some (.ref 0), some (.int x1), none], []) (H, z) (fun _ _ => False) (fun r => ∃ H' : List xE, r = (.inr (some (.int x.1)), (H', zX x.2.1 z)) ∧ H'[12]? = some (.inr (3, [.long x.2.2.1, .long x.2.2.2.1])) ∧ H'[13]? = some (.inr (3, [.long x.2.2.2.2.1, .long x.2.2.2.2.2.1])) ∧ H'[14]? = some (.inr (3, [.long x.2.2.2.2.2.2.1, .long x.2.2.2.2.2.2.2])) ∧ xfr [12, 13, 14] H H') := by
    unfold q_L_seen at h
    refine go_step (fun _ => ev_run 2 (F' := (2, [some (.ref 0), some (.int x1), none], [.int x1, .ref 0])) rfl) ?_
    rcases okx h with ⟨e2, y1, hy1, h⟩ | ⟨v3, y4, hy4, h⟩
    · skip
      obtain ⟨H5, hCH5, eH5_12, eH5_13, eH5_14, fH5⟩ := C_X11_isSeen (S := S) (d := d) (z := z) (x1 := x1) u_0 u_10 u_11 u_12 u_8 u_13 u_14 hy1
      by_cases s4 : e2 = 4
      · have h := (if_pos s4).symm.trans h
        subst s4
        refine go_step (F1 := (15, [some (.ref 0), some (.int x1), none], [])) (M1 := (H5, (z.1, z.2.1 + 1, z.2.2 + 6))) (fun _ => ev_callVC (x := (.invokevirtual 82, 3, 118, 10, 879, .null)) (as := [.int x1]) (rest := []) rfl rfl u_0 rfl rfl hCH5 rfl) ?_
        refine go_step (fun _ => ev_run 1 (F' := (17, [some (.ref 0), some (.int x1), none], [.int (-2 : Int32)])) rfl) ?_
        cases h
        exact Or.inr ⟨_, ev_ret rfl rfl rfl rfl, H5, rfl, eH5_12, eH5_13, eH5_14, (xfr_t xfr_refl rfl fH5)⟩
      · have h := (if_neg s4).symm.trans h
        cases h
    · skip
      obtain ⟨H6, hCH6, eH6_12, eH6_13, eH6_14, fH6⟩ := C_X11_isSeen (S := S) (d := d) (z := z) (x1 := x1) u_0 u_10 u_11 u_12 u_8 u_13 u_14 hy4
      refine go_step (F1 := (5, [some (.ref 0), some (.int x1), none], [.int v3])) (M1 := (H6, z)) (fun _ => ev_callV (x := (.invokevirtual 82, 3, 118, 10, 879, .null)) (as := [.int x1]) (rest := []) rfl rfl u_0 hCH6 rfl) ?_
      refine go_step (F1 := (13, [none, none, none], [.int (if v3 = (0 : Int32) then (0 : Int32) else (1 : Int32))])) (M1 := (H6, z)) (fun r K => ?_) ?_
      · skip
        refine ev_if rfl (fun (b5 : v3 = (0 : Int32)) => ?_) (fun (b5 : ¬ (v3 = (0 : Int32))) => ?_)
        · skip
          refine ev_run 1 (F' := (13, [some (.ref 0), some (.int x1), none], [.int (0 : Int32)])) rfl ?_
          refine ev_forget (L' := [none, none, none]) (show xleP _ [some (.ref 0), some (.int x1), none] from trivial) rfl ?_
          exact ev_cast (show ((13, [none, none, none], [.int (0 : Int32)]) : xF) = (13, [none, none, none], [.int (if v3 = (0 : Int32) then (0 : Int32) else (1 : Int32))]) by first | (simp only [if_pos b5]; done) | rfl) rfl K
        · skip
          refine ev_run 2 (F' := (13, [some (.ref 0), some (.int x1), none], [.int (1 : Int32)])) rfl ?_
          refine ev_forget (L' := [none, none, none]) (show xleP _ [some (.ref 0), some (.int x1), none] from trivial) rfl ?_
          exact ev_cast (show ((13, [none, none, none], [.int (1 : Int32)]) : xF) = (13, [none, none, none], [.int (if v3 = (0 : Int32) then (0 : Int32) else (1 : Int32))]) by first | (simp only [if_neg b5]; done) | rfl) rfl K
      cases h
      exact Or.inr ⟨_, ev_ret rfl rfl rfl rfl, H6, rfl, eH6_12, eH6_13, eH6_14, (xfr_t xfr_refl rfl fH6)⟩
  obtain ⟨_, hE, H', rfl, hrest⟩ := go_end G
  exact ⟨H', hE, hrest⟩

/-! Functions of the methods, and that the small machine does what they say: written by a program (wip/whole/dec). -/
def q_X6_init_L28 : Nat → Int32 → (Nat → Int32) → Option (Int32 × (Nat → Int32))
  | 0, _, _ => none
  | n + 1, l1, a22 => (if (nI 190) ≤ l1 then (some (l1, a22)) else (if (10 : Int32) ≤ l1 then (if xin (l1 - (10 : Int32)) 190 = true then (if (a22 (l1 - (10 : Int32)).toNatClampNeg) < (0 : Int32) then (if xin l1 190 = true then (q_X6_init_L28 n (l1 + (1 : Int32)) (upd a22 l1.toNatClampNeg l1)) else none) else (if (nI 10) ≤ (a22 (l1 - (10 : Int32)).toNatClampNeg) then (if xin l1 190 = true then (q_X6_init_L28 n (l1 + (1 : Int32)) (upd a22 l1.toNatClampNeg l1)) else none) else (if xin l1 190 = true then (q_X6_init_L28 n (l1 + (1 : Int32)) (upd a22 l1.toNatClampNeg ((fun k => ([1, 5, 7, 6, 2, 8, 3, 0, 9, 4] : List Int32).getD k 0) (a22 (l1 - (10 : Int32)).toNatClampNeg).toNatClampNeg))) else none))) else none) else (if (-1 : Int32) < (0 : Int32) then (if xin l1 190 = true then (q_X6_init_L28 n (l1 + (1 : Int32)) (upd a22 l1.toNatClampNeg l1)) else none) else (if (nI 10) ≤ (-1 : Int32) then (if xin l1 190 = true then (q_X6_init_L28 n (l1 + (1 : Int32)) (upd a22 l1.toNatClampNeg l1)) else none) else (if xin l1 190 = true then (q_X6_init_L28 n (l1 + (1 : Int32)) (upd a22 l1.toNatClampNeg ((fun k => ([1, 5, 7, 6, 2, 8, 3, 0, 9, 4] : List Int32).getD k 0) (-1 : Int32).toNatClampNeg))) else none)))))
def q_X6_init (x1 : Int32) (a22 : Nat → Int32) : Option (Nat → Int32) := ((q_X6_init_L28 10000 x1 a22).bind (fun y1 => (some y1.2)))
theorem L_X6_init_L28 {S : Nat × (Nat → Int32)} {d : Nat} {z : Bool × Nat × Nat} {H0 : List xE} (u_19 : H0[19]? = some (.inr (5, [.ref 20, .ref 22]))) (u_1000001 : H0[1000001]? = none) : ∀ (n : Nat) (l1 : Int32) (a22 : Nat → Int32) (H : List xE), xfr [22] H0 H → H[22]? = some (.inl (0, 190, .inl a22)) → ∀ x, q_X6_init_L28 n l1 a22 = some x → Go S d 62 (28, [some (.ref 19), some (.int l1), none], []) (H, z) (fun F' M' => ∃ H' : List xE, F' = (90, [none, none, none], []) ∧ M' = (H', z) ∧ H'[22]? = some (.inl (0, 190, .inl x.2)) ∧ xfr [22] H0 H') (fun _ => False) := by
  intro n
  induction n with
  | zero =>
    intro l1 a22 H fr e_22 x h
    unfold q_X6_init_L28 at h
    cases h
  | succ n ih =>
    intro l1 a22 H fr e_22 x h
    unfold q_X6_init_L28 at h
    refine go_step (fun _ => ev_run 2 (F' := (30, [some (.ref 19), some (.int l1), none], [.ref 19, .int l1])) rfl) ?_
    refine go_step (fun _ => ev_getf rfl ((fr 19 rfl).trans u_19) rfl) ?_
    refine go_step (fun _ => ev_alen rfl e_22 rfl) ?_
    refine go_icmp rfl (fun (b34 : (nI 190) ≤ l1) => ?_) (fun (b34 : ¬ ((nI 190) ≤ l1)) => ?_)
    · have h := (if_pos b34).symm.trans h
      refine go_step (fun _ => ev_forget (L' := [none, none, none]) (show xleP _ [some (.ref 19), some (.int l1), none] from trivial) rfl) ?_
      cases h
      exact Or.inl ⟨_, _, fun r hr => hr, H, rfl, rfl, e_22, fr⟩
    · have h := (if_neg b34).symm.trans h
      refine go_step (fun _ => ev_run 2 (F' := (40, [some (.ref 19), some (.int l1), none], [.int (10 : Int32), .int l1])) rfl) ?_
      refine go_icmp rfl (fun (b40 : (10 : Int32) ≤ l1) => ?_) (fun (b40 : ¬ ((10 : Int32) ≤ l1)) => ?_)
      · have h := (if_pos b40).symm.trans h
        refine go_step (fun _ => ev_run 1 (F' := (48, [some (.ref 19), some (.int l1), none], [.ref 19])) rfl) ?_
        refine go_step (fun _ => ev_getf rfl ((fr 19 rfl).trans u_19) rfl) ?_
        refine go_step (fun _ => ev_run 3 (F' := (55, [some (.ref 19), some (.int l1), none], [.int (l1 - (10 : Int32)), .ref 22])) rfl) ?_
        obtain ⟨g55, h⟩ := okg h
        refine go_step (fun _ => ev_iald rfl e_22 g55) ?_
        refine go_step (fun _ => ev_run 2 (F' := (58, [some (.ref 19), some (.int l1), some (.int (a22 (l1 - (10 : Int32)).toNatClampNeg))], [.ref 19])) rfl) ?_
        refine go_step (fun _ => ev_getf rfl ((fr 19 rfl).trans u_19) rfl) ?_
        refine go_step (fun _ => ev_run 2 (F' := (63, [some (.ref 19), some (.int l1), some (.int (a22 (l1 - (10 : Int32)).toNatClampNeg))], [.int (a22 (l1 - (10 : Int32)).toNatClampNeg), .int l1, .ref 22])) rfl) ?_
        refine go_if rfl (fun (b63 : (a22 (l1 - (10 : Int32)).toNatClampNeg) < (0 : Int32)) => ?_) (fun (b63 : ¬ ((a22 (l1 - (10 : Int32)).toNatClampNeg) < (0 : Int32))) => ?_)
        · have h := (if_pos b63).symm.trans h
          refine go_step (fun _ => ev_run 1 (F' := (83, [some (.ref 19), some (.int l1), some (.int (a22 (l1 - (10 : Int32)).toNatClampNeg))], [.int l1, .int l1, .ref 22])) rfl) ?_
          obtain ⟨g83, h⟩ := okg h
          refine go_iast rfl e_22 g83 (fun H1 (eH1 : H1[22]? = some (.inl (0, 190, .inl (upd a22 l1.toNatClampNeg l1)))) fH1 => ?_)
          refine go_step (fun _ => ev_run 2 (F' := (28, [some (.ref 19), some (.int (l1 + (1 : Int32))), some (.int (a22 (l1 - (10 : Int32)).toNatClampNeg))], [])) rfl) ?_
          refine go_step (fun _ => ev_forget (L' := [some (.ref 19), some (.int (l1 + (1 : Int32))), none]) (show xleP _ [some (.ref 19), some (.int (l1 + (1 : Int32))), some (.int (a22 (l1 - (10 : Int32)).toNatClampNeg))] from ⟨rfl, ⟨rfl, trivial⟩⟩) rfl) ?_
          exact ih (l1 + (1 : Int32)) (upd a22 l1.toNatClampNeg l1) H1 (xfr_t fr rfl fH1) eH1 _ h
        · have h := (if_neg b63).symm.trans h
          refine go_step (fun _ => ev_run 2 (F' := (70, [some (.ref 19), some (.int l1), some (.int (a22 (l1 - (10 : Int32)).toNatClampNeg))], [.ref 1000001, .int (a22 (l1 - (10 : Int32)).toNatClampNeg), .int l1, .ref 22])) rfl) ?_
          refine go_step (fun _ => ev_rlen (t := 0) (m := 10) (f := (fun k => ([1, 5, 7, 6, 2, 8, 3, 0, 9, 4] : List Int32).getD k 0)) rfl ((fr 1000001 rfl).trans u_1000001) rfl) ?_
          refine go_icmp rfl (fun (b71 : (nI 10) ≤ (a22 (l1 - (10 : Int32)).toNatClampNeg)) => ?_) (fun (b71 : ¬ ((nI 10) ≤ (a22 (l1 - (10 : Int32)).toNatClampNeg))) => ?_)
          · have h := (if_pos b71).symm.trans h
            refine go_step (fun _ => ev_run 1 (F' := (83, [some (.ref 19), some (.int l1), some (.int (a22 (l1 - (10 : Int32)).toNatClampNeg))], [.int l1, .int l1, .ref 22])) rfl) ?_
            obtain ⟨g83, h⟩ := okg h
            refine go_iast rfl e_22 g83 (fun H2 (eH2 : H2[22]? = some (.inl (0, 190, .inl (upd a22 l1.toNatClampNeg l1)))) fH2 => ?_)
            refine go_step (fun _ => ev_run 2 (F' := (28, [some (.ref 19), some (.int (l1 + (1 : Int32))), some (.int (a22 (l1 - (10 : Int32)).toNatClampNeg))], [])) rfl) ?_
            refine go_step (fun _ => ev_forget (L' := [some (.ref 19), some (.int (l1 + (1 : Int32))), none]) (show xleP _ [some (.ref 19), some (.int (l1 + (1 : Int32))), some (.int (a22 (l1 - (10 : Int32)).toNatClampNeg))] from ⟨rfl, ⟨rfl, trivial⟩⟩) rfl) ?_
            exact ih (l1 + (1 : Int32)) (upd a22 l1.toNatClampNeg l1) H2 (xfr_t fr rfl fH2) eH2 _ h
          · have h := (if_neg b71).symm.trans h
            refine go_step (fun _ => ev_run 2 (F' := (78, [some (.ref 19), some (.int l1), some (.int (a22 (l1 - (10 : Int32)).toNatClampNeg))], [.int (a22 (l1 - (10 : Int32)).toNatClampNeg), .ref 1000001, .int l1, .ref 22])) rfl) ?_
            refine go_step (fun _ => ev_riald (t := 0) (f := (fun k => ([1, 5, 7, 6, 2, 8, 3, 0, 9, 4] : List Int32).getD k 0)) rfl ((fr 1000001 rfl).trans u_1000001) rfl (xin_of (by decide) b63 b71)) ?_
            refine go_step (fun _ => ev_run 1 (F' := (83, [some (.ref 19), some (.int l1), some (.int (a22 (l1 - (10 : Int32)).toNatClampNeg))], [.int ((fun k => ([1, 5, 7, 6, 2, 8, 3, 0, 9, 4] : List Int32).getD k 0) (a22 (l1 - (10 : Int32)).toNatClampNeg).toNatClampNeg), .int l1, .ref 22])) rfl) ?_
            obtain ⟨g83, h⟩ := okg h
            refine go_iast rfl e_22 g83 (fun H3 (eH3 : H3[22]? = some (.inl (0, 190, .inl (upd a22 l1.toNatClampNeg ((fun k => ([1, 5, 7, 6, 2, 8, 3, 0, 9, 4] : List Int32).getD k 0) (a22 (l1 - (10 : Int32)).toNatClampNeg).toNatClampNeg))))) fH3 => ?_)
            refine go_step (fun _ => ev_run 2 (F' := (28, [some (.ref 19), some (.int (l1 + (1 : Int32))), some (.int (a22 (l1 - (10 : Int32)).toNatClampNeg))], [])) rfl) ?_
            refine go_step (fun _ => ev_forget (L' := [some (.ref 19), some (.int (l1 + (1 : Int32))), none]) (show xleP _ [some (.ref 19), some (.int (l1 + (1 : Int32))), some (.int (a22 (l1 - (10 : Int32)).toNatClampNeg))] from ⟨rfl, ⟨rfl, trivial⟩⟩) rfl) ?_
            exact ih (l1 + (1 : Int32)) (upd a22 l1.toNatClampNeg ((fun k => ([1, 5, 7, 6, 2, 8, 3, 0, 9, 4] : List Int32).getD k 0) (a22 (l1 - (10 : Int32)).toNatClampNeg).toNatClampNeg)) H3 (xfr_t fr rfl fH3) eH3 _ h
      · have h := (if_neg b40).symm.trans h
        refine go_step (fun _ => ev_run 4 (F' := (58, [some (.ref 19), some (.int l1), some (.int (-1 : Int32))], [.ref 19])) rfl) ?_
        refine go_step (fun _ => ev_getf rfl ((fr 19 rfl).trans u_19) rfl) ?_
        refine go_step (fun _ => ev_run 2 (F' := (63, [some (.ref 19), some (.int l1), some (.int (-1 : Int32))], [.int (-1 : Int32), .int l1, .ref 22])) rfl) ?_
        refine go_if rfl (fun (b63 : (-1 : Int32) < (0 : Int32)) => ?_) (fun (b63 : ¬ ((-1 : Int32) < (0 : Int32))) => ?_)
        · have h := (if_pos b63).symm.trans h
          refine go_step (fun _ => ev_run 1 (F' := (83, [some (.ref 19), some (.int l1), some (.int (-1 : Int32))], [.int l1, .int l1, .ref 22])) rfl) ?_
          obtain ⟨g83, h⟩ := okg h
          refine go_iast rfl e_22 g83 (fun H4 (eH4 : H4[22]? = some (.inl (0, 190, .inl (upd a22 l1.toNatClampNeg l1)))) fH4 => ?_)
          refine go_step (fun _ => ev_run 2 (F' := (28, [some (.ref 19), some (.int (l1 + (1 : Int32))), some (.int (-1 : Int32))], [])) rfl) ?_
          refine go_step (fun _ => ev_forget (L' := [some (.ref 19), some (.int (l1 + (1 : Int32))), none]) (show xleP _ [some (.ref 19), some (.int (l1 + (1 : Int32))), some (.int (-1 : Int32))] from ⟨rfl, ⟨rfl, trivial⟩⟩) rfl) ?_
          exact ih (l1 + (1 : Int32)) (upd a22 l1.toNatClampNeg l1) H4 (xfr_t fr rfl fH4) eH4 _ h
        · have h := (if_neg b63).symm.trans h
          refine go_step (fun _ => ev_run 2 (F' := (70, [some (.ref 19), some (.int l1), some (.int (-1 : Int32))], [.ref 1000001, .int (-1 : Int32), .int l1, .ref 22])) rfl) ?_
          refine go_step (fun _ => ev_rlen (t := 0) (m := 10) (f := (fun k => ([1, 5, 7, 6, 2, 8, 3, 0, 9, 4] : List Int32).getD k 0)) rfl ((fr 1000001 rfl).trans u_1000001) rfl) ?_
          refine go_icmp rfl (fun (b71 : (nI 10) ≤ (-1 : Int32)) => ?_) (fun (b71 : ¬ ((nI 10) ≤ (-1 : Int32))) => ?_)
          · have h := (if_pos b71).symm.trans h
            refine go_step (fun _ => ev_run 1 (F' := (83, [some (.ref 19), some (.int l1), some (.int (-1 : Int32))], [.int l1, .int l1, .ref 22])) rfl) ?_
            obtain ⟨g83, h⟩ := okg h
            refine go_iast rfl e_22 g83 (fun H5 (eH5 : H5[22]? = some (.inl (0, 190, .inl (upd a22 l1.toNatClampNeg l1)))) fH5 => ?_)
            refine go_step (fun _ => ev_run 2 (F' := (28, [some (.ref 19), some (.int (l1 + (1 : Int32))), some (.int (-1 : Int32))], [])) rfl) ?_
            refine go_step (fun _ => ev_forget (L' := [some (.ref 19), some (.int (l1 + (1 : Int32))), none]) (show xleP _ [some (.ref 19), some (.int (l1 + (1 : Int32))), some (.int (-1 : Int32))] from ⟨rfl, ⟨rfl, trivial⟩⟩) rfl) ?_
            exact ih (l1 + (1 : Int32)) (upd a22 l1.toNatClampNeg l1) H5 (xfr_t fr rfl fH5) eH5 _ h
          · have h := (if_neg b71).symm.trans h
            refine go_step (fun _ => ev_run 2 (F' := (78, [some (.ref 19), some (.int l1), some (.int (-1 : Int32))], [.int (-1 : Int32), .ref 1000001, .int l1, .ref 22])) rfl) ?_
            refine go_step (fun _ => ev_riald (t := 0) (f := (fun k => ([1, 5, 7, 6, 2, 8, 3, 0, 9, 4] : List Int32).getD k 0)) rfl ((fr 1000001 rfl).trans u_1000001) rfl (xin_of (by decide) b63 b71)) ?_
            refine go_step (fun _ => ev_run 1 (F' := (83, [some (.ref 19), some (.int l1), some (.int (-1 : Int32))], [.int ((fun k => ([1, 5, 7, 6, 2, 8, 3, 0, 9, 4] : List Int32).getD k 0) (-1 : Int32).toNatClampNeg), .int l1, .ref 22])) rfl) ?_
            obtain ⟨g83, h⟩ := okg h
            refine go_iast rfl e_22 g83 (fun H6 (eH6 : H6[22]? = some (.inl (0, 190, .inl (upd a22 l1.toNatClampNeg ((fun k => ([1, 5, 7, 6, 2, 8, 3, 0, 9, 4] : List Int32).getD k 0) (-1 : Int32).toNatClampNeg))))) fH6 => ?_)
            refine go_step (fun _ => ev_run 2 (F' := (28, [some (.ref 19), some (.int (l1 + (1 : Int32))), some (.int (-1 : Int32))], [])) rfl) ?_
            refine go_step (fun _ => ev_forget (L' := [some (.ref 19), some (.int (l1 + (1 : Int32))), none]) (show xleP _ [some (.ref 19), some (.int (l1 + (1 : Int32))), some (.int (-1 : Int32))] from ⟨rfl, ⟨rfl, trivial⟩⟩) rfl) ?_
            exact ih (l1 + (1 : Int32)) (upd a22 l1.toNatClampNeg ((fun k => ([1, 5, 7, 6, 2, 8, 3, 0, 9, 4] : List Int32).getD k 0) (-1 : Int32).toNatClampNeg)) H6 (xfr_t fr rfl fH6) eH6 _ h
theorem C_X6_init {S : Nat × (Nat → Int32)} {d : Nat} {H : List xE} {z : Bool × Nat × Nat} {a22 : Nat → Int32} {x1 : Int32} (u_19 : H[19]? = some (.inr (5, [.ref 20, .ref 22]))) (u_22 : H[22]? = some (.inl (0, 190, .inl a22))) (u_1000001 : H[1000001]? = none) {x : Nat → Int32} (h : q_X6_init x1 a22 = some x) : ∃ H' : List xE, Ev S d 62 (28, [some (.ref 19), some (.int x1), none], []) (H, z) (.inr none, (H', z)) ∧ H'[22]? = some (.inl (0, 190, .inl x)) ∧ xfr [22] H H' := by
  have G : Go S d 62 (28, [some (.ref 19), some (.int x1), none], []) (H, z) (fun _ _ => False) (fun r => ∃ H' : List xE, r = (.inr none, (H', z)) ∧ H'[22]? = some (.inl (0, 190, .inl x)) ∧ xfr [22] H H') := by
    unfold q_X6_init at h
    obtain ⟨y1, hy1, h⟩ := okb h
    obtain ⟨_, _, hr3, H2, rfl, rfl, eH2_22, fH2⟩ := go_nr (L_X6_init_L28 (S := S) (d := d) (z := z) u_19 u_1000001 10000 x1 a22 H xfr_refl u_22 _ hy1)
    refine go_step hr3 ?_
    cases h
    exact Or.inr ⟨_, ev_ret rfl rfl rfl rfl, H2, rfl, eH2_22, (xfr_t xfr_refl rfl fH2)⟩
  obtain ⟨_, hE, H', rfl, hrest⟩ := go_end G
  exact ⟨H', hE, hrest⟩

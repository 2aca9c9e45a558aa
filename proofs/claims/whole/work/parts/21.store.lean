/-! Rows that are kept side by side (class Store), and what the row of bytes was (class Past). -/
/-- n numbers of g written from the place b on -/
def sWr (f : Nat → Int32) (b : Nat) (g : Nat → Int32) (n : Nat) : Nat → Int32 := fun k => if b ≤ k ∧ k < b + n then g (k - b) else f k
theorem sWr_0 {f g : Nat → Int32} {b : Nat} : sWr f b g 0 = f := by
  funext k
  unfold sWr
  rw [if_neg (by omega)]
theorem sWr_step {f g : Nat → Int32} {b j : Nat} : upd (sWr f b g j) (b + j) (g j) = sWr f b g (j + 1) := by
  funext k
  unfold upd sWr
  by_cases hk : k = b + j
  · subst hk
    rw [if_pos rfl, if_pos (by omega), show b + j - b = j by omega]
  · rw [if_neg hk]
    by_cases hc : b ≤ k ∧ k < b + j
    · rw [if_pos hc, if_pos (by omega)]
    · rw [if_neg hc, if_neg (by omega)]
theorem nI_min_l {a b : Nat} (h : a ≤ b) (hb : b < 2147483648) : (if nI b < nI a then nI b else nI a) = nI a := by
  rw [nI_min (by omega) hb, Nat.min_eq_left h]
theorem c_write {S : Nat × (Nat → Int32)} {d : Nat} {H : List xE} {z : Bool × Nat × Nat} {h qv qs mv ms b n room i h2 q2 m2 : Nat} {fv fs g : Nat → Int32} (hh : H[h]? = some (.inr (7, [.int (nI room), .ref qv, .ref qs]))) (hv : H[qv]? = some (.inl (0, mv, .inl fv))) (hs : H[qs]? = some (.inl (0, ms, .inl fs))) (hh2 : H[h2]? = some (.inr (4, [.ref q2, .int (nI n)]))) (hq2 : H[q2]? = some (.inl (0, m2, .inl g))) (hi : i < ms) (hms : ms < 2147483648) (hmv : mv < 2147483648) (hm2 : m2 < 2147483648) (hroom : room < 2147483648) (hb : i * room = b) (hbn : b + n ≤ mv) (hn : n ≤ room) (hn2 : n ≤ m2) (d1 : h ≠ qv) (d2 : h ≠ qs) (d3 : qv ≠ qs) (d4 : h2 ≠ qv) (d5 : h2 ≠ qs) (d6 : q2 ≠ qv) (d7 : q2 ≠ qs) (d8 : h2 ≠ q2) (d9 : h ≠ h2) (d10 : h ≠ q2) : Cm S (d + 1) 83 [.ref h, .int (nI i), .ref h2] (H, z) (.inr none, ((H.set qs (.inl (0, ms, .inl (upd fs i (nI n))))).set qv (.inl (0, mv, .inl (sWr fv b g n))), z)) := by
  show Ev S (d + 1) 83 (0, [some (.ref h), some (.int (nI i)), some (.ref h2), none, none, none], []) (H, z) _
  refine ev_run 1 (F' := (1, [some (.ref h), some (.int (nI i)), some (.ref h2), none, none, none], [.int (nI i)])) rfl ?_
  refine ev_if_F rfl (show ¬ ((nI i) < 0) from nI_pos (by omega)) ?_
  refine ev_run 2 (F' := (6, [some (.ref h), some (.int (nI i)), some (.ref h2), none, none, none], [.ref h, .int (nI i)])) rfl ?_
  refine ev_getf rfl hh rfl ?_
  refine ev_alen rfl hs rfl ?_
  refine ev_icmp_T rfl (show (nI i) < nI ms from nI_lt hi (by omega)) ?_
  refine ev_run 1 (F' := (15, [some (.ref h), some (.int (nI i)), some (.ref h2), none, none, none], [.ref h2])) rfl ?_
  refine ev_callV (x := (.invokevirtual 26, 3, 55, 4, 356, .null)) (as := []) (rest := []) rfl rfl hh2 (c_size hh2) rfl ?_
  refine ev_run 1 (F' := (19, [some (.ref h), some (.int (nI i)), some (.ref h2), none, none, none], [.ref h, .int (nI n)])) rfl ?_
  refine ev_getf rfl hh rfl ?_
  refine ev_run 1 (F' := (25, [some (.ref h), some (.int (nI i)), some (.ref h2), none, none, none], [.int (if (nI room) < (nI n) then (nI room) else (nI n))])) rfl ?_
  refine ev_cast (F1 := (25, [some (.ref h), some (.int (nI i)), some (.ref h2), none, none, none], [.int (nI n)])) (M1 := (H, z)) (by rw [nI_min_l hn hroom]) rfl ?_
  refine ev_run 2 (F' := (27, [some (.ref h), some (.int (nI i)), some (.ref h2), some (.int (nI n)), none, none], [.ref h])) rfl ?_
  refine ev_getf rfl hh rfl ?_
  refine ev_run 2 (F' := (32, [some (.ref h), some (.int (nI i)), some (.ref h2), some (.int (nI n)), none, none], [.int (nI n), .int (nI i), .ref qs])) rfl ?_
  refine ev_iast_n rfl hs (show i < ms from (by omega)) (by omega) ?_
  refine ev_run 2 (F' := (36, [some (.ref h), some (.int (nI i)), some (.ref h2), some (.int (nI n)), some (.int 0), none], [])) rfl ?_
  refine ev_cast (F1 := (fun j => ((36, [some (.ref h), some (.int (nI i)), some (.ref h2), some (.int (nI n)), some (.int (nI j)), none], []) : xF)) 0) (M1 := (fun j => ((((H.set qs (.inl (0, ms, .inl (upd fs i (nI n))))).set qv (.inl (0, mv, .inl (sWr fv b g j)))), z) : xM)) 0) (by show ((36, [some (.ref h), some (.int (nI i)), some (.ref h2), some (.int (nI n)), some (.int 0), none], []) : xF) = (36, [some (.ref h), some (.int (nI i)), some (.ref h2), some (.int (nI n)), some (.int (nI 0)), none], []); rfl) (by show (((H.set qs (.inl (0, ms, .inl (upd fs i (nI n))))), z) : xM) = (((H.set qs (.inl (0, ms, .inl (upd fs i (nI n))))).set qv (.inl (0, mv, .inl (sWr fv b g 0)))), z); rw [sWr_0, hs_self (hs_ne (Ne.symm d3) hv)]) (ev_iter (fr := fun j => ((36, [some (.ref h), some (.int (nI i)), some (.ref h2), some (.int (nI n)), some (.int (nI j)), none], []) : xF)) (Mm := fun j => ((((H.set qs (.inl (0, ms, .inl (upd fs i (nI n))))).set qv (.inl (0, mv, .inl (sWr fv b g j)))), z) : xM)) (n) (fun j hj ih => ?_) ?_)
  · show Ev S _ _ (36, [some (.ref h), some (.int (nI i)), some (.ref h2), some (.int (nI n)), some (.int (nI j)), none], []) (((H.set qs (.inl (0, ms, .inl (upd fs i (nI n))))).set qv (.inl (0, mv, .inl (sWr fv b g j)))), z) _
    refine ev_run 2 (F' := (39, [some (.ref h), some (.int (nI i)), some (.ref h2), some (.int (nI n)), some (.int (nI j)), none], [.int (nI n), .int (nI j)])) rfl ?_
    refine ev_icmp_F rfl (show ¬ ((nI n) ≤ (nI j)) from nI_ge hj (by omega)) ?_
    refine ev_run 2 (F' := (44, [some (.ref h), some (.int (nI i)), some (.ref h2), some (.int (nI n)), some (.int (nI j)), none], [.ref h, .int (nI i)])) rfl ?_
    refine ev_getf rfl (hs_ne (Ne.symm d1) (hs_ne (Ne.symm d2) hh)) rfl ?_
    refine ev_run 3 (F' := (51, [some (.ref h), some (.int (nI i)), some (.ref h2), some (.int (nI n)), some (.int (nI j)), none], [.int (((nI i) * (nI room)) + (nI j))])) rfl ?_
    refine ev_cast (F1 := (51, [some (.ref h), some (.int (nI i)), some (.ref h2), some (.int (nI n)), some (.int (nI j)), none], [.int (nI (b + j))])) (M1 := (((H.set qs (.inl (0, ms, .inl (upd fs i (nI n))))).set qv (.inl (0, mv, .inl (sWr fv b g j)))), z)) (by rw [pk_mul, hb, nI_add]) rfl ?_
    refine ev_run 3 (F' := (56, [some (.ref h), some (.int (nI i)), some (.ref h2), some (.int (nI n)), some (.int (nI j)), some (.int (nI (b + j)))], [.ref h, .int (nI (b + j))])) rfl ?_
    refine ev_getf rfl (hs_ne (Ne.symm d1) (hs_ne (Ne.symm d2) hh)) rfl ?_
    refine ev_alen rfl (hs_eq (hs_ne (Ne.symm d3) hv)) rfl ?_
    refine ev_icmp_F rfl (show ¬ (nI mv ≤ (nI (b + j))) from nI_ge (show b + j < mv by omega) (by omega)) ?_
    refine ev_run 1 (F' := (64, [some (.ref h), some (.int (nI i)), some (.ref h2), some (.int (nI n)), some (.int (nI j)), some (.int (nI (b + j)))], [.ref h])) rfl ?_
    refine ev_getf rfl (hs_ne (Ne.symm d1) (hs_ne (Ne.symm d2) hh)) rfl ?_
    refine ev_run 3 (F' := (72, [some (.ref h), some (.int (nI i)), some (.ref h2), some (.int (nI n)), some (.int (nI j)), some (.int (nI (b + j)))], [.int (nI j), .ref h2, .int (nI (b + j)), .ref qv])) rfl ?_
    refine ev_callV (x := (.invokevirtual 35, 3, 57, 4, 363, .null)) (as := [.int (nI j)]) (rest := [.int (nI (b + j)), .ref qv]) rfl rfl (hs_ne (Ne.symm d4) (hs_ne (Ne.symm d5) hh2)) (c_at (hs_ne (Ne.symm d4) (hs_ne (Ne.symm d5) hh2)) (hs_ne (Ne.symm d6) (hs_ne (Ne.symm d7) hq2)) (by first | assumption | decide)) rfl ?_
    refine ev_iast_n rfl (hs_eq (hs_ne (Ne.symm d3) hv)) (show (b + j) < mv from (by omega)) (by omega) ?_
    refine ev_run 2 (F' := (36, [some (.ref h), some (.int (nI i)), some (.ref h2), some (.int (nI n)), some (.int ((nI j) + 1)), some (.int (nI (b + j)))], [])) rfl ?_
    refine ev_forget (L' := [some (.ref h), some (.int (nI i)), some (.ref h2), some (.int (nI n)), some (.int ((nI j) + 1)), none]) (show xleP _ [some (.ref h), some (.int (nI i)), some (.ref h2), some (.int (nI n)), some (.int ((nI j) + 1)), some (.int (nI (b + j)))] from ⟨rfl, ⟨rfl, ⟨rfl, ⟨rfl, ⟨rfl, trivial⟩⟩⟩⟩⟩) rfl ?_
    refine ev_cast (F1 := (36, [some (.ref h), some (.int (nI i)), some (.ref h2), some (.int (nI n)), some (.int (nI (j + 1))), none], [])) (M1 := (((H.set qs (.inl (0, ms, .inl (upd fs i (nI n))))).set qv (.inl (0, mv, .inl (sWr fv b g (j + 1))))), z)) (by rw [nI_1]) (by rw [hs_set2, rAt_nI (by omega) hm2, sWr_step]) ih
  · show Ev S _ _ (36, [some (.ref h), some (.int (nI i)), some (.ref h2), some (.int (nI n)), some (.int (nI n)), none], []) (((H.set qs (.inl (0, ms, .inl (upd fs i (nI n))))).set qv (.inl (0, mv, .inl (sWr fv b g n)))), z) _
    refine ev_run 2 (F' := (39, [some (.ref h), some (.int (nI i)), some (.ref h2), some (.int (nI n)), some (.int (nI n)), none], [.int (nI n), .int (nI n)])) rfl ?_
    refine ev_icmp_T rfl (show (nI n) ≤ (nI n) from nI_le (Nat.le_refl n) (by omega)) ?_
    exact ev_ret rfl rfl rfl (rfl)
theorem hs_4 {X : List xE} {h q : Nat} {a b c e : xE} (hne : h ≠ q) : ((((X.set q a).set h b).set q c).set h e) = (X.set q c).set h e := by
  rw [hs_comm (H := X.set q a) (x := b) (y := c) hne, List.set_set, List.set_set]
theorem rCpy_step2 {f g : Nat → Int32} {b j : Nat} : upd (rCpy f (fun k => g (b + k)) j) j (g (b + j)) = rCpy f (fun k => g (b + k)) (j + 1) := rCpy_step (g := fun k => g (b + k))
theorem c_read {S : Nat × (Nat → Int32)} {d : Nat} {H : List xE} {z : Bool × Nat × Nat} {h qv qs mv ms b n room i h2 q2 m2 : Nat} {sz2 : Int32} {fv fs g : Nat → Int32} (hh : H[h]? = some (.inr (7, [.int (nI room), .ref qv, .ref qs]))) (hv : H[qv]? = some (.inl (0, mv, .inl fv))) (hs : H[qs]? = some (.inl (0, ms, .inl fs))) (hh2 : H[h2]? = some (.inr (4, [.ref q2, .int sz2]))) (hq2 : H[q2]? = some (.inl (0, m2, .inl g))) (hi : i < ms) (hms : ms < 2147483648) (hmv : mv < 2147483648) (hm2 : m2 < 2147483648) (hroom : room < 2147483648) (hb : i * room = b) (hbn : b + n ≤ mv) (hn : n ≤ room) (hn2 : n ≤ m2) (d1 : h ≠ qv) (d2 : h ≠ qs) (d3 : qv ≠ qs) (d4 : h2 ≠ qv) (d5 : h2 ≠ qs) (d6 : q2 ≠ qv) (d7 : q2 ≠ qs) (d8 : h2 ≠ q2) (d9 : h ≠ h2) (d10 : h ≠ q2) (hfs : fs i = nI n) : Cm S (d + 3) 84 [.ref h, .int (nI i), .ref h2] (H, z) (.inr none, (((H.set h2 (.inr (4, [.ref q2, .int 0]))).set q2 (.inl (0, m2, .inl (rCpy g (fun k => fv (b + k)) n)))).set h2 (.inr (4, [.ref q2, .int (nI n)])), z)) := by
  show Ev S (d + 3) 84 (0, [some (.ref h), some (.int (nI i)), some (.ref h2), none, none], []) (H, z) _
  refine ev_run 1 (F' := (1, [some (.ref h), some (.int (nI i)), some (.ref h2), none, none], [.ref h2])) rfl ?_
  refine ev_callV (x := (.invokevirtual 39, 3, 62, 4, 749, .null)) (as := []) (rest := []) rfl rfl hh2 (c_empty hh2) rfl ?_
  refine ev_run 1 (F' := (5, [some (.ref h), some (.int (nI i)), some (.ref h2), none, none], [.int (nI i)])) rfl ?_
  refine ev_if_F rfl (show ¬ ((nI i) < 0) from nI_pos (by omega)) ?_
  refine ev_run 2 (F' := (10, [some (.ref h), some (.int (nI i)), some (.ref h2), none, none], [.ref h, .int (nI i)])) rfl ?_
  refine ev_getf rfl (hs_ne (Ne.symm d9) hh) rfl ?_
  refine ev_alen rfl (hs_ne d5 hs) rfl ?_
  refine ev_icmp_T rfl (show (nI i) < nI ms from nI_lt hi (by omega)) ?_
  refine ev_run 2 (F' := (20, [some (.ref h), some (.int (nI i)), some (.ref h2), some (.int 0), none], [])) rfl ?_
  refine ev_cast (F1 := (fun j => ((20, [some (.ref h), some (.int (nI i)), some (.ref h2), some (.int (nI j)), none], []) : xF)) 0) (M1 := (fun j => (((((H.set h2 (.inr (4, [.ref q2, .int 0]))).set q2 (.inl (0, m2, .inl (rCpy g (fun k => fv (b + k)) j)))).set h2 (.inr (4, [.ref q2, .int (nI j)]))), z) : xM)) 0) (by show ((20, [some (.ref h), some (.int (nI i)), some (.ref h2), some (.int 0), none], []) : xF) = (20, [some (.ref h), some (.int (nI i)), some (.ref h2), some (.int (nI 0)), none], []); rfl) (by show (((H.set h2 (.inr (4, [.ref q2, .int 0]))), z) : xM) = ((((H.set h2 (.inr (4, [.ref q2, .int 0]))).set q2 (.inl (0, m2, .inl (rCpy g (fun k => fv (b + k)) 0)))).set h2 (.inr (4, [.ref q2, .int (nI 0)]))), z); rw [rCpy_0, nI_0, hs_self (hs_ne d8 hq2), hs_self (hs_eq hh2)]) (ev_iter (fr := fun j => ((20, [some (.ref h), some (.int (nI i)), some (.ref h2), some (.int (nI j)), none], []) : xF)) (Mm := fun j => (((((H.set h2 (.inr (4, [.ref q2, .int 0]))).set q2 (.inl (0, m2, .inl (rCpy g (fun k => fv (b + k)) j)))).set h2 (.inr (4, [.ref q2, .int (nI j)]))), z) : xM)) (n) (fun j hj ih => ?_) ?_)
  · show Ev S _ _ (20, [some (.ref h), some (.int (nI i)), some (.ref h2), some (.int (nI j)), none], []) ((((H.set h2 (.inr (4, [.ref q2, .int 0]))).set q2 (.inl (0, m2, .inl (rCpy g (fun k => fv (b + k)) j)))).set h2 (.inr (4, [.ref q2, .int (nI j)]))), z) _
    refine ev_run 2 (F' := (22, [some (.ref h), some (.int (nI i)), some (.ref h2), some (.int (nI j)), none], [.ref h, .int (nI j)])) rfl ?_
    refine ev_getf rfl (hs_ne (Ne.symm d9) (hs_ne (Ne.symm d10) (hs_ne (Ne.symm d9) hh))) rfl ?_
    refine ev_run 1 (F' := (26, [some (.ref h), some (.int (nI i)), some (.ref h2), some (.int (nI j)), none], [.int (nI i), .ref qs, .int (nI j)])) rfl ?_
    refine ev_iald_n rfl (hs_ne d5 (hs_ne d7 (hs_ne d5 hs))) (show i < ms from (by omega)) (by omega) ?_
    refine ev_cast (F1 := (27, [some (.ref h), some (.int (nI i)), some (.ref h2), some (.int (nI j)), none], [.int (nI n), .int (nI j)])) (M1 := ((((H.set h2 (.inr (4, [.ref q2, .int 0]))).set q2 (.inl (0, m2, .inl (rCpy g (fun k => fv (b + k)) j)))).set h2 (.inr (4, [.ref q2, .int (nI j)]))), z)) (by rw [hfs]) rfl ?_
    refine ev_icmp_F rfl (show ¬ ((nI n) ≤ (nI j)) from nI_ge hj (by omega)) ?_
    refine ev_run 2 (F' := (32, [some (.ref h), some (.int (nI i)), some (.ref h2), some (.int (nI j)), none], [.ref h, .int (nI i)])) rfl ?_
    refine ev_getf rfl (hs_ne (Ne.symm d9) (hs_ne (Ne.symm d10) (hs_ne (Ne.symm d9) hh))) rfl ?_
    refine ev_run 1 (F' := (36, [some (.ref h), some (.int (nI i)), some (.ref h2), some (.int (nI j)), none], [.int ((nI i) * (nI room))])) rfl ?_
    refine ev_run 2 (F' := (38, [some (.ref h), some (.int (nI i)), some (.ref h2), some (.int (nI j)), none], [.int (((nI i) * (nI room)) + (nI j))])) rfl ?_
    refine ev_cast (F1 := (38, [some (.ref h), some (.int (nI i)), some (.ref h2), some (.int (nI j)), none], [.int (nI (b + j))])) (M1 := ((((H.set h2 (.inr (4, [.ref q2, .int 0]))).set q2 (.inl (0, m2, .inl (rCpy g (fun k => fv (b + k)) j)))).set h2 (.inr (4, [.ref q2, .int (nI j)]))), z)) (by rw [pk_mul, hb, nI_add]) rfl ?_
    refine ev_run 3 (F' := (43, [some (.ref h), some (.int (nI i)), some (.ref h2), some (.int (nI j)), some (.int (nI (b + j)))], [.ref h, .int (nI (b + j))])) rfl ?_
    refine ev_getf rfl (hs_ne (Ne.symm d9) (hs_ne (Ne.symm d10) (hs_ne (Ne.symm d9) hh))) rfl ?_
    refine ev_alen rfl (hs_ne d4 (hs_ne d6 (hs_ne d4 hv))) rfl ?_
    refine ev_icmp_F rfl (show ¬ (nI mv ≤ (nI (b + j))) from nI_ge (show b + j < mv by omega) (by omega)) ?_
    refine ev_run 2 (F' := (52, [some (.ref h), some (.int (nI i)), some (.ref h2), some (.int (nI j)), some (.int (nI (b + j)))], [.ref h, .ref h2])) rfl ?_
    refine ev_getf rfl (hs_ne (Ne.symm d9) (hs_ne (Ne.symm d10) (hs_ne (Ne.symm d9) hh))) rfl ?_
    refine ev_run 1 (F' := (57, [some (.ref h), some (.int (nI i)), some (.ref h2), some (.int (nI j)), some (.int (nI (b + j)))], [.int (nI (b + j)), .ref qv, .ref h2])) rfl ?_
    refine ev_iald_n rfl (hs_ne d4 (hs_ne d6 (hs_ne d4 hv))) (show (b + j) < mv from (by omega)) (by omega) ?_
    refine ev_callV (x := (.invokevirtual 42, 3, 59, 4, 750, .null)) (as := [.int (fv (b + j))]) (rest := []) rfl rfl (hs_eq (hs_ne (Ne.symm d8) (hs_eq hh2))) (c_append (hs_eq (hs_ne (Ne.symm d8) (hs_eq hh2))) (hs_ne d8 (hs_eq (hs_ne d8 hq2))) (by first | assumption | decide) (show j < m2 by omega) d8) rfl ?_
    refine ev_run 2 (F' := (20, [some (.ref h), some (.int (nI i)), some (.ref h2), some (.int ((nI j) + 1)), some (.int (nI (b + j)))], [])) rfl ?_
    refine ev_forget (L' := [some (.ref h), some (.int (nI i)), some (.ref h2), some (.int ((nI j) + 1)), none]) (show xleP _ [some (.ref h), some (.int (nI i)), some (.ref h2), some (.int ((nI j) + 1)), some (.int (nI (b + j)))] from ⟨rfl, ⟨rfl, ⟨rfl, ⟨rfl, trivial⟩⟩⟩⟩) rfl ?_
    refine ev_cast (F1 := (20, [some (.ref h), some (.int (nI i)), some (.ref h2), some (.int (nI (j + 1))), none], [])) (M1 := ((((H.set h2 (.inr (4, [.ref q2, .int 0]))).set q2 (.inl (0, m2, .inl (rCpy g (fun k => fv (b + k)) (j + 1))))).set h2 (.inr (4, [.ref q2, .int (nI (j + 1))]))), z)) (by rw [nI_1]) (by rw [hs_4 d8, rCpy_step2]) ih
  · show Ev S _ _ (20, [some (.ref h), some (.int (nI i)), some (.ref h2), some (.int (nI n)), none], []) ((((H.set h2 (.inr (4, [.ref q2, .int 0]))).set q2 (.inl (0, m2, .inl (rCpy g (fun k => fv (b + k)) n)))).set h2 (.inr (4, [.ref q2, .int (nI n)]))), z) _
    refine ev_run 2 (F' := (22, [some (.ref h), some (.int (nI i)), some (.ref h2), some (.int (nI n)), none], [.ref h, .int (nI n)])) rfl ?_
    refine ev_getf rfl (hs_ne (Ne.symm d9) (hs_ne (Ne.symm d10) (hs_ne (Ne.symm d9) hh))) rfl ?_
    refine ev_run 1 (F' := (26, [some (.ref h), some (.int (nI i)), some (.ref h2), some (.int (nI n)), none], [.int (nI i), .ref qs, .int (nI n)])) rfl ?_
    refine ev_iald_n rfl (hs_ne d5 (hs_ne d7 (hs_ne d5 hs))) (show i < ms from (by omega)) (by omega) ?_
    refine ev_cast (F1 := (27, [some (.ref h), some (.int (nI i)), some (.ref h2), some (.int (nI n)), none], [.int (nI n), .int (nI n)])) (M1 := ((((H.set h2 (.inr (4, [.ref q2, .int 0]))).set q2 (.inl (0, m2, .inl (rCpy g (fun k => fv (b + k)) n)))).set h2 (.inr (4, [.ref q2, .int (nI n)]))), z)) (by rw [hfs]) rfl ?_
    refine ev_icmp_T rfl (show (nI n) ≤ (nI n) from nI_le (Nat.le_refl n) (by omega)) ?_
    exact ev_ret rfl rfl rfl (rfl)
theorem nI_rem {a b : Nat} (ha : a < 2147483648) (h0 : 0 < b) (hb : b < 2147483648) : nI a - nI a / nI b * nI b = nI (a % b) := pk_rem ha h0 hb
theorem c_hasSome {S : Nat × (Nat → Int32)} {d : Nat} {H : List xE} {z : Bool × Nat × Nat} {k : Nat} {u1 u2 : Value} {h : Nat} (a3 : H[h]? = some (.inr (2, [u1, u2, .int (nI k)]))) (hk : k ≤ 10) : Cm S d 36 [.ref h] (H, z) (.inr (some (.int (if 0 < k then 1 else 0))), (H, z)) := by
  show Ev S d 36 (0, [some (.ref h)], []) (H, z) _
  refine ev_run 1 (F' := (1, [some (.ref h)], [.ref h])) rfl ?_
  refine ev_getf rfl a3 rfl ?_
  refine ev_if rfl (fun (c4 : (nI k) ≤ 0) => ?_) (fun (c4 : ¬ ((nI k) ≤ 0)) => ?_)
  · skip
    refine ev_run 1 (F' := (12, [some (.ref h)], [.int 0])) rfl ?_
    exact ev_ret rfl rfl rfl (by first | (rw [if_pos (show 0 < k from Nat.pos_of_ne_zero (fun e => c4 (by rw [e]; decide)))]) | (rw [if_neg (show ¬ 0 < k from fun hx => absurd ((nI_leI (a := k) (b := 0) (by omega) (by omega)).mp c4) (by omega))]))
  · skip
    refine ev_run 2 (F' := (12, [some (.ref h)], [.int 1])) rfl ?_
    exact ev_ret rfl rfl rfl (by first | (rw [if_pos (show 0 < k from Nat.pos_of_ne_zero (fun e => c4 (by rw [e]; decide)))]) | (rw [if_neg (show ¬ 0 < k from fun hx => absurd ((nI_leI (a := k) (b := 0) (by omega) (by omega)).mp c4) (by omega))]))
theorem c_keep {S : Nat × (Nat → Int32)} {d : Nat} {H : List xE} {z : Bool × Nat × Nat} {a k n : Nat} {fv fs f : Nat → Int32} (a3 : H[3]? = some (.inr (2, [.ref 4, .int (nI a), .int (nI k)]))) (a4 : H[4]? = some (.inr (7, [.int (nI 64), .ref 5, .ref 6]))) (a5 : H[5]? = some (.inl (0, 640, .inl fv))) (a6 : H[6]? = some (.inl (0, 10, .inl fs))) (a1 : H[1]? = some (.inr (4, [.ref 2, .int (nI n)]))) (a2 : H[2]? = some (.inl (0, 64, .inl f))) (ha : a < 10) (hk : k ≤ 10) (hn : n ≤ 64) : Cm S (d + 2) 37 [.ref 3, .ref 1] (H, z) (.inr none, (((H.set 6 (.inl (0, 10, .inl (upd fs a (nI n))))).set 5 (.inl (0, 640, .inl (sWr fv (64 * a) f n)))).set 3 (.inr (2, [.ref 4, .int (nI ((a + 1) % 10)), .int (nI (min (k + 1) 10))])), z)) := by
  show Ev S (d + 2) 37 (0, [some (.ref 3), some (.ref 1)], []) (H, z) _
  refine ev_run 1 (F' := (1, [some (.ref 3), some (.ref 1)], [.ref 3])) rfl ?_
  refine ev_getf rfl a3 rfl ?_
  refine ev_run 1 (F' := (5, [some (.ref 3), some (.ref 1)], [.ref 3, .ref 4])) rfl ?_
  refine ev_getf rfl a3 rfl ?_
  refine ev_run 1 (F' := (9, [some (.ref 3), some (.ref 1)], [.ref 1, .int (nI a), .ref 4])) rfl ?_
  refine ev_callV (x := (.invokevirtual 27, 3, 83, 7, 352, .null)) (as := [.int (nI a), .ref 1]) (rest := []) rfl rfl a4 (c_write (b := 64 * a) (i := a) (n := n) (room := 64) a4 a5 a6 a1 a2 ha (by decide) (by decide) (by decide) (by decide) (Nat.mul_comm a 64) (by omega) hn hn (by decide) (by decide) (by decide) (by decide) (by decide) (by decide) (by decide) (by decide) (by decide) (by decide)) rfl ?_
  refine ev_run 2 (F' := (14, [some (.ref 3), some (.ref 1)], [.ref 3, .ref 3])) rfl ?_
  refine ev_getf rfl (hs_ne (by decide) (hs_ne (by decide) a3)) rfl ?_
  refine ev_run 3 (F' := (21, [some (.ref 3), some (.ref 1)], [.int 10, .int ((nI a) + 1), .ref 3])) rfl ?_
  refine ev_rem rfl (show ¬ 10 = 0 from (by decide)) ?_
  refine ev_cast (F1 := (22, [some (.ref 3), some (.ref 1)], [.int (nI ((a + 1) % 10)), .ref 3])) (M1 := (((H.set 6 (.inl (0, 10, .inl (upd fs a (nI n))))).set 5 (.inl (0, 640, .inl (sWr fv (64 * a) f n)))), z)) (by rw [nI_1, show (10 : Int32) = nI 10 from rfl, nI_rem (by omega) (by omega) (by omega)]) rfl ?_
  refine ev_putf rfl (hs_ne (by decide) (hs_ne (by decide) a3)) rfl ?_
  show Ev S _ _ (25, [some (.ref 3), some (.ref 1)], []) ((((H.set 6 (.inl (0, 10, .inl (upd fs a (nI n))))).set 5 (.inl (0, 640, .inl (sWr fv (64 * a) f n)))).set 3 (.inr (2, [.ref 4, .int (nI ((a + 1) % 10)), .int (nI k)]))), z) _
  refine ev_run 2 (F' := (27, [some (.ref 3), some (.ref 1)], [.ref 3, .ref 3])) rfl ?_
  refine ev_getf rfl (hs_eq (hs_ne (by decide) (hs_ne (by decide) a3))) rfl ?_
  refine ev_run 4 (F' := (37, [some (.ref 3), some (.ref 1)], [.int (if 10 < ((nI k) + 1) then 10 else ((nI k) + 1)), .ref 3])) rfl ?_
  refine ev_cast (F1 := (37, [some (.ref 3), some (.ref 1)], [.int (nI (min (k + 1) 10)), .ref 3])) (M1 := ((((H.set 6 (.inl (0, 10, .inl (upd fs a (nI n))))).set 5 (.inl (0, 640, .inl (sWr fv (64 * a) f n)))).set 3 (.inr (2, [.ref 4, .int (nI ((a + 1) % 10)), .int (nI k)]))), z)) (by rw [nI_1, show (10 : Int32) = nI 10 from rfl, nI_min (by omega) (by omega)]) rfl ?_
  refine ev_putf rfl (hs_eq (hs_ne (by decide) (hs_ne (by decide) a3))) rfl ?_
  show Ev S _ _ (40, [some (.ref 3), some (.ref 1)], []) (((((H.set 6 (.inl (0, 10, .inl (upd fs a (nI n))))).set 5 (.inl (0, 640, .inl (sWr fv (64 * a) f n)))).set 3 (.inr (2, [.ref 4, .int (nI ((a + 1) % 10)), .int (nI k)]))).set 3 (.inr (2, [.ref 4, .int (nI ((a + 1) % 10)), .int (nI (min (k + 1) 10))]))), z) _
  exact ev_ret rfl rfl rfl (by rw [hs_set2])
theorem c_giveBack {S : Nat × (Nat → Int32)} {d : Nat} {H : List xE} {z : Bool × Nat × Nat} {a k n : Nat} {sz : Int32} {fv fs f : Nat → Int32} (a3 : H[3]? = some (.inr (2, [.ref 4, .int (nI a), .int (nI k)]))) (a4 : H[4]? = some (.inr (7, [.int (nI 64), .ref 5, .ref 6]))) (a5 : H[5]? = some (.inl (0, 640, .inl fv))) (a6 : H[6]? = some (.inl (0, 10, .inl fs))) (a1 : H[1]? = some (.inr (4, [.ref 2, .int sz]))) (a2 : H[2]? = some (.inl (0, 64, .inl f))) (ha : a < 10) (hk : k ≤ 10) (hn : n ≤ 64) (hk0 : 0 < k) (hfs : fs ((a + 9) % 10) = nI n) : Cm S (d + 4) 38 [.ref 3, .ref 1] (H, z) (.inr none, ((((H.set 3 (.inr (2, [.ref 4, .int (nI ((a + 9) % 10)), .int (nI (k - 1))]))).set 1 (.inr (4, [.ref 2, .int 0]))).set 2 (.inl (0, 64, .inl (rCpy f (fun k => fv (64 * ((a + 9) % 10) + k)) n)))).set 1 (.inr (4, [.ref 2, .int (nI n)])), z)) := by
  show Ev S (d + 4) 38 (0, [some (.ref 3), some (.ref 1)], []) (H, z) _
  refine ev_run 2 (F' := (2, [some (.ref 3), some (.ref 1)], [.ref 3, .ref 3])) rfl ?_
  refine ev_getf rfl a3 rfl ?_
  refine ev_run 5 (F' := (12, [some (.ref 3), some (.ref 1)], [.int 10, .int (((nI a) + 10) - 1), .ref 3])) rfl ?_
  refine ev_rem rfl (show ¬ 10 = 0 from (by decide)) ?_
  refine ev_cast (F1 := (13, [some (.ref 3), some (.ref 1)], [.int (nI ((a + 9) % 10)), .ref 3])) (M1 := (H, z)) (by rw [show (10 : Int32) = nI 10 from rfl, nI_add, nI_p1 (by omega), show a + 10 - 1 = a + 9 by omega, nI_rem (by omega) (by omega) (by omega)]) rfl ?_
  refine ev_putf rfl a3 rfl ?_
  show Ev S _ _ (16, [some (.ref 3), some (.ref 1)], []) ((H.set 3 (.inr (2, [.ref 4, .int (nI ((a + 9) % 10)), .int (nI k)]))), z) _
  refine ev_run 2 (F' := (18, [some (.ref 3), some (.ref 1)], [.ref 3, .ref 3])) rfl ?_
  refine ev_getf rfl (hs_eq a3) rfl ?_
  refine ev_run 4 (F' := (27, [some (.ref 3), some (.ref 1)], [.int (if ((nI k) - 1) < 0 then 0 else ((nI k) - 1)), .ref 3])) rfl ?_
  refine ev_cast (F1 := (27, [some (.ref 3), some (.ref 1)], [.int (nI (k - 1)), .ref 3])) (M1 := ((H.set 3 (.inr (2, [.ref 4, .int (nI ((a + 9) % 10)), .int (nI k)]))), z)) (by rw [nI_p1 hk0, if_neg (nI_pos (by omega))]) rfl ?_
  refine ev_putf rfl (hs_eq a3) rfl ?_
  show Ev S _ _ (30, [some (.ref 3), some (.ref 1)], []) (((H.set 3 (.inr (2, [.ref 4, .int (nI ((a + 9) % 10)), .int (nI k)]))).set 3 (.inr (2, [.ref 4, .int (nI ((a + 9) % 10)), .int (nI (k - 1))]))), z) _
  refine ev_run 1 (F' := (31, [some (.ref 3), some (.ref 1)], [.ref 3])) rfl ?_
  refine ev_getf rfl (hs_eq (hs_eq a3)) rfl ?_
  refine ev_run 1 (F' := (35, [some (.ref 3), some (.ref 1)], [.ref 3, .ref 4])) rfl ?_
  refine ev_getf rfl (hs_eq (hs_eq a3)) rfl ?_
  refine ev_run 1 (F' := (39, [some (.ref 3), some (.ref 1)], [.ref 1, .int (nI ((a + 9) % 10)), .ref 4])) rfl ?_
  refine ev_callV (x := (.invokevirtual 40, 3, 84, 7, 745, .null)) (as := [.int (nI ((a + 9) % 10)), .ref 1]) (rest := []) rfl rfl (hs_ne (by decide) (hs_ne (by decide) a4)) (c_read (b := 64 * ((a + 9) % 10)) (i := (a + 9) % 10) (n := n) (room := 64) (hs_ne (by decide) (hs_ne (by decide) a4)) (hs_ne (by decide) (hs_ne (by decide) a5)) (hs_ne (by decide) (hs_ne (by decide) a6)) (hs_ne (by decide) (hs_ne (by decide) a1)) (hs_ne (by decide) (hs_ne (by decide) a2)) (by omega) (by decide) (by decide) (by decide) (by decide) (Nat.mul_comm _ 64) (by omega) hn hn (by decide) (by decide) (by decide) (by decide) (by decide) (by decide) (by decide) (by decide) (by decide) (by decide) hfs) rfl ?_
  exact ev_ret rfl rfl rfl (by rw [hs_set2])

/-! THE SMALL MACHINE'S RUNS ARE THE MACHINE'S. -/
theorem xhnd_use : ∀ (hh : List (Nat × Nat × Nat × Nat)) (pc e hp : Nat), xhnd hh pc e = some hp → ∃ (pre : List (Nat × Nat × Nat × Nat)) (x : Nat × Nat × Nat × Nat) (suf : List (Nat × Nat × Nat × Nat)), hh = pre ++ x :: suf ∧ x.2.2.1 = hp ∧ x.1 ≤ pc ∧ pc < x.2.1 ∧ xcat x.2.2.2 = e ∧ ∀ z ∈ pre, ¬ (z.1 ≤ pc ∧ pc < z.2.1) ∨ xcat z.2.2.2 ≠ e := by
  intro hh
  induction hh with
  | nil => intro pc e hp h; cases h
  | cons a t ih =>
    intro pc e hp h
    unfold xhnd at h
    cases hq : (Nat.ble a.1 pc && Nat.blt pc a.2.1 && Nat.beq (xcat a.2.2.2) e) with
    | true =>
      rw [hq] at h
      cases h
      rw [Bool.and_eq_true, Bool.and_eq_true] at hq
      exact ⟨[], a, t, rfl, rfl, Nat.le_of_ble_eq_true hq.1.1, Nat.lt_of_lt_of_le (Nat.lt_succ_self _) (Nat.le_of_ble_eq_true hq.1.2), Nat.eq_of_beq_eq_true hq.2, fun z hz => nomatch hz⟩
    | false =>
      rw [hq] at h
      obtain ⟨pre, x, suf, h1, h2, h3, h4, h5, h6⟩ := ih pc e hp h
      refine ⟨a :: pre, x, suf, by rw [h1]; rfl, h2, h3, h4, h5, fun z hz => ?_⟩
      rcases List.mem_cons.mp hz with rfl | hz
      · by_cases c : (z.1 ≤ pc ∧ pc < z.2.1)
        · refine Or.inr fun c2 => ?_
          rw [Nat.ble_eq_true_of_le c.1, show Nat.blt pc z.2.1 = true from Nat.ble_eq_true_of_le c.2, c2, show Nat.beq e e = true from Nat.beq_refl e] at hq
          cases hq
        · exact Or.inl c
      · exact h6 z hz
theorem xcat_lt {k : Nat} (h : xcat k < 6) : k ≠ 0 ∧ xcat k ≠ 1 ∧ Cond.classLink RL k (xExc.getD (xcat k) "") ∈ xW := by
  have key : ∀ q, q = 58 ∨ q = 56 ∨ q = 68 ∨ q = 74 ∨ q = 80 → q ≠ 0 ∧ xcat q ≠ 1 ∧ Cond.classLink RL q (xExc.getD (xcat q) "") ∈ xW := by
    intro q hq
    rcases hq with rfl | rfl | rfl | rfl | rfl <;> exact ⟨by decide, by decide, by decide +kernel⟩
  apply key
  unfold xcat at h
  by_cases c0 : k = 58
  · exact Or.inl c0
  by_cases c1 : k = 56
  · exact Or.inr (Or.inl c1)
  by_cases c2 : k = 68
  · exact Or.inr (Or.inr (Or.inl c2))
  by_cases c3 : k = 74
  · exact Or.inr (Or.inr (Or.inr (Or.inl c3)))
  by_cases c4 : k = 80
  · exact Or.inr (Or.inr (Or.inr (Or.inr c4)))
  have hf : ∀ {a b : Nat}, a ≠ b → Nat.beq a b = false := fun {a b} hne => by
    cases hq : Nat.beq a b with
    | false => rfl
    | true => exact absurd (Nat.eq_of_beq_eq_true hq) hne
  rw [hf c0, hf c1, hf c2, hf c3, hf c4] at h
  exact absurd h (by decide)
set_option maxHeartbeats 1000000 in
theorem x_catch {p : Program} {l : Launch} {e : Env} {R : Room} {s : State} {m : MethodId} {args : Array Value} {below : List Frame} {meth : Method} {c : Code} {H : Heap} {locs : List Loc} {cells slots : Nat} {Q : State → Prop} {ls : Array Slot} {rest : List Value} {A : Nat → Prop} {ρ : Nat → Nat} {b0 : Nat} {S : Nat × (Nat → Int32)} {i k : Nat} {F F' : xF} {q : Addr} {ce : Cell}
    (hx : p.tables.exec = Jvm.exec) (hb : c.code = (xmd i).2.1) (hown : s.vm.findClass (xmd i).1.cls = some m.cls) (hts : ∀ w ∈ xW, w.before args s = true) (htab : c.exceptionTable.toList = tableOf (xmd i).2.2.2.2.2.2) (hZ : xZ ρ b0 S A s s.heap) (hQ : xokQ i) (hcls : (xmd i).1.cls = RL) (hcat : ∀ h ∈ (xmd i).2.2.2.2.2.2, xcat h.2.2.2 < 6)
    (hL : xLo ρ F.2.1 ls (xmd i).2.2.1) (hk : k < 6) (hc : xcatch i F k = some F') (hcell : H[q]? = some ce) (hv : ce.vm = .none) (hcl : s.vm.findClass (xExc.getD k "") = some ce.cls)
    (kk : ∀ ls' : Array Slot, xLo ρ F'.2.1 ls' (xmd i).2.2.1 → F'.2.2 = [] → W p l e R s m args below meth c H locs cells slots Q (F0 m F'.1 ls' [])) : vx_W p l e R s m args below meth c H locs cells slots Q (F0 m F.1 ls rest) q := by
  unfold xcatch at hc
  split at hc
  · cases hc
  · rename_i hp hhp
    obtain ⟨pre, x, suf, h1, h2, h3, h4, h5, h6⟩ := xhnd_use _ _ _ _ hhp
    obtain ⟨-, -, -, -, -, -, -, -, -, hbd, hnc, -, -⟩ := hZ
    have hxm : x ∈ (xmd i).2.2.2.2.2.2 := by rw [h1]; exact List.mem_append_right _ List.mem_cons_self
    obtain ⟨x0, -, xl⟩ := xcat_lt (hcat x hxm)
    rw [h5] at xl
    have hw2 := va_Nw.use (A := args) rfl (hbd k hk _ (xBd_cast k hk))
    refine vx_catch (own := (xmd i).1.cls) (name := xExc.getD k "") (E := xExc.getD k "") hown (tableOf pre) ⟨x.1, x.2.1, x.2.2.1, x.2.2.2⟩ (tableOf suf) (by rw [htab, h1]; simp [tableOf]) (fun z hz => ?_) (by simp [covers, h3, h4]) x0 (by rw [hcls]; exact hts _ xl) hw2 hcell hv hcl ?_
    · obtain ⟨y, hy, rfl⟩ := List.mem_map.mp hz
      have hym : y ∈ (xmd i).2.2.2.2.2.2 := by rw [h1]; exact List.mem_append_left _ hy
      have hy6 := hcat y hym
      obtain ⟨y0, y1, yl⟩ := xcat_lt hy6
      rcases h6 y hy with h | h
      · refine Or.inl ?_
        simp only [covers]
        cases hq : (decide (y.1 ≤ F.1) && decide (F.1 < y.2.1)) with
        | false => rfl
        | true => rw [Bool.and_eq_true, decide_eq_true_eq, decide_eq_true_eq] at hq; exact absurd hq h
      · exact Or.inr ⟨y0, _, by rw [hcls]; exact hts _ yl, hnc k _ hk hy6 y1 (fun z => h z.symm)⟩
    · rw [h2]
      split at hc
      · rename_i idx len a b w v hcod
        cases hc
        obtain ⟨hd, hpk⟩ := hQ.2 _ _ hcod
        simp only [xokP, Bool.and_eq_true, decide_eq_true_eq] at hpk
        obtain ⟨⟨e1, e2⟩, e3⟩ := hpk
        subst e1; subst e2
        exact lv_astore hx hb hd hL.has e3 rfl (fun ls' h' => kk ls' (xLo.drop1 h') rfl)
      · rename_i idx len a b w v hcod
        cases hc
        obtain ⟨hd, hpk⟩ := hQ.2 _ _ hcod
        simp only [xokP, Bool.and_eq_true, decide_eq_true_eq] at hpk
        obtain ⟨⟨e1, e2⟩, e3⟩ := hpk
        subst e1; subst e2
        exact lv_astore_n hx hb hd rfl hL.has e3 rfl (fun ls' h' => kk ls' (xLo.drop1 h') rfl)
      · cases hc
theorem x_lt {i pc : Nat} {x : xI} (hkd : xkd x = 2) (hp : xokP i pc x = true) : x.2.2.1 < 178 := by
  obtain ⟨ins, len, a, b, w, v⟩ := x
  cases ins <;> try (simp [xkd] at hkd; done)
  case new idx =>
    exfalso
    unfold xkd at hkd
    dsimp only at hkd
    cases hq : Nat.ble 2000 a <;> rw [hq] at hkd <;> cases hkd
  case invokevirtual idx =>
    have h9 : Nat.beq a 1003 = false := by
      cases hz : Nat.beq a 1003 with
      | false => rfl
      | true => simp [xkd, hz] at hkd
    simp only [xokP, Bool.and_eq_true, h9, cond_false] at hp
    exact (xmlk_use hp.2.1.1).1
  all_goals
    have h1 : Nat.ble 1000 a = false := by
      cases hz : Nat.ble 1000 a with
      | false => rfl
      | true => simp [xkd, hz] at hkd
    have hlt : a < 1000 := by
      rcases Nat.lt_or_ge a 1000 with h | h
      · exact h
      · rw [Nat.ble_eq_true_of_le h] at h1; cases h1
    have hf : ∀ {q : Nat}, a < q → Nat.beq a q = false := fun {q} hne => by
      cases hq : Nat.beq a q with
      | false => rfl
      | true => exact absurd (Nat.eq_of_beq_eq_true hq) (by omega)
    have hg : Nat.ble 2000 a = false := by
      cases hq : Nat.ble 2000 a with
      | false => rfl
      | true => exact absurd (Nat.le_of_ble_eq_true hq) (by omega)
  case invokespecial idx =>
    simp only [xokP, Bool.and_eq_true, hg, hf (show a < 1000 by omega), cond_false] at hp
    exact (xmlk_use hp.2.1).1
  case invokestatic idx =>
    simp only [xokP, Bool.and_eq_true, hf (show a < 1001 by omega), hf (show a < 1002 by omega), cond_false] at hp
    exact (xmlk_use hp.2.1).1
theorem x_kd3 {i pc : Nat} {x : xI} (hkd : xkd x = 3) (hp : xokP i pc x = true) : ∃ idx, x.1 = .new idx ∧ x.2.1 = 3 ∧ xthr i pc idx x = true := by
  obtain ⟨ins, len, a, b, w, v⟩ := x
  cases ins <;> try (simp [xkd] at hkd; done)
  case new idx =>
    have h1 : Nat.ble 2000 a = true := by
      cases hz : Nat.ble 2000 a with
      | true => rfl
      | false => simp [xkd, hz] at hkd
    simp only [xokP, Bool.and_eq_true, decide_eq_true_eq, h1, cond_true] at hp
    exact ⟨idx, rfl, hp.1, hp.2⟩
  all_goals
    exfalso
    unfold xkd at hkd
    dsimp only at hkd
    first
      | (cases hq : Nat.ble 1000 a <;> rw [hq] at hkd <;> cases hkd; done)
      | (cases hq : Nat.beq a 1003 <;> rw [hq] at hkd <;> cases hkd; done)
theorem xok_hh {i : Nat} (h : xokM i = true) (hne : (xmd i).2.2.2.2.2.2 = [] → False) : (∀ h ∈ (xmd i).2.2.2.2.2.2, xcat h.2.2.2 < 6) ∧ (xmd i).1.cls = RL := by
  have h0 := h
  unfold xokM at h
  by_cases hk : (xmd i).2.2.2.2.1 = 3
  · obtain ⟨-, -, -, -, h5, h6, -⟩ := xokM_k3 h0 hk
    exact ⟨h5, h6⟩
  · exfalso
    generalize xmd i = q at *
    obtain ⟨y, bs, ml, rt, kd, na, hh⟩ := q
    dsimp only at hk hne
    simp only [Bool.and_eq_true] at h
    have h2 := h.2
    split at h2
    · simp only [Bool.and_eq_true, List.isEmpty_iff] at h2
      exact hne h2.1.2
    · simp only [Bool.and_eq_true, List.isEmpty_iff] at h2
      exact hne h2.1.2
    · simp only [Bool.and_eq_true, List.isEmpty_iff] at h2
      exact hne h2.1.1.1.2
    · exact hk rfl
    · simp only [List.isEmpty_iff] at h2
      exact hne h2
set_option maxHeartbeats 2000000 in
theorem xrun {l : Launch} {ρ : Nat → Nat} {b0 : Nat} {S : Nat × (Nat → Int32)} {A : Nat → Prop} {dA : Nat → ClassId} {D : va_G} (hl : l.stackTraces = false) (hρ : ∀ k, k < 999999 → ρ (k + 1) = ρ k + 1) (hA0 : ∀ q, b0 ≤ q → A q) (hok : ∀ i, i < 179 → xokQ i) :
    ∀ (n d i : Nat) (F : xF) (M : xM) (r : xR), i < 179 → xexec S n d i F M = some r → xSF l ρ b0 S A dA D d i F M r := by
  intro n
  induction n with
  | zero => intro d i F M r _ h; cases h
  | succ n ih =>
    intro d i F M r hi h
    intro p e s m args below meth c R H locs cells slots Q ls C0 S0 hx hb hml hown hts hname hlocks htab hZ hK hRf hRl hS hD hL hc hs hRc hRs hcap kret kthr
    have hA : ∀ q, s.heap.size ≤ q → A q := fun q hq => hA0 q (Nat.le_trans hZ.2.2.2.2.2.2.2.2.2.2.2.2 hq)
    have hQ := hok i hi
    unfold xexec at h
    split at h
    · cases h
    · rename_i x hcod
      split at h
      · rename_i hkd
        split at h
        · rename_i r' h1
          obtain ⟨F', M'⟩ := r'
          have hm2 := xexec_mono _ _ _ _ _ _ h
          dsimp only at hm2 h
          refine xone_W (b0 := b0) (C0 := C0) (S0 := S0) hx hb hml hown hts hname hZ hK hA hρ (by omega) (by omega) hQ hcod h1 hkd (by omega) hS hD hL hc hs (by omega) (by omega) ?_
          intro H' locs' ls' c' s' hD' hS' hL' hc' hs'
          exact ih d i F' M' r hi h p e s m args below meth c R H' locs' c' s' Q ls' C0 S0 hx hb hml hown hts hname hlocks htab hZ hK hRf hRl hS' hD' hL' hc' hs' hRc hRs hcap kret kthr
        · cases h
      · rename_i hkd
        split at h
        · rename_i v hret
          cases h
          obtain ⟨hd, hp⟩ := hQ.2 _ _ hcod
          have hlen : x.2.1 = 1 := by
            rcases xret_cases hret with ⟨_, _, h2, _⟩ | ⟨_, h2, _⟩ | ⟨h2, _⟩ <;> (obtain ⟨ins, len, a, b, w, u⟩ := x; dsimp only at h2; subst h2; simpa [xokP] using hp)
          rw [hlen] at hd
          exact kret v x.1 H locs F.1 ls F.2.2 cells slots rfl hd hret hD hS hc hs
        · cases h
      · rename_i hkd
        split at h
        · cases h
        · rename_i d'
          simp only [cond_eq_ite] at h
          split at h
          · rename_i hmay
            have hxa : x.2.2.1 < 178 := by
              obtain ⟨hd, hp⟩ := hQ.2 _ _ hcod
              exact x_lt hkd hp
            have hQj := hok x.2.2.1 (by omega)
            obtain ⟨m1, m2, m3, m4, -⟩ := xmay_use hmay
            split at h
            · cases h
            · rename_i v M' h1
              have hmono := xexec_mono _ _ _ _ _ _ h1
              have hmono2 := xexec_mono _ _ _ _ _ _ h
              dsimp only at hmono hmono2
              have hmet := xmet_of hQj m4 m2 hmono (by first | omega | (dsimp only at *; omega)) (ih d' x.2.2.1 _ M _ (by omega) h1)
              obtain ⟨-, hrun⟩ := x_run (i := i) (pc := F.1) (locs := locs) (cells := cells) (slots := slots) hx hb hml hown hts hZ hK hRf hRl hQ hcod hkd hok hS hD hL.1 hmay hmet (by dsimp only; omega) (by dsimp only; omega)
              refine x_behind hrun hS ?_ ?_
              · intro v' H1 locs1 hv' hD1 hS1
                cases hv'
                have := ih (d' + 1) i (F.1 + 3, F.2.1, v.toList ++ F.2.2.drop (xmd x.2.2.1).2.2.2.2.2.1) M' r hi h p e s m args below meth c R H1 locs1 (cells + (M'.2.2.1 - M.2.2.1)) (slots + (M'.2.2.2 - M.2.2.2)) Q ls C0 S0 hx hb hml hown hts hname hlocks htab hZ hK hRf hRl hS1 hD1 hL (by omega) (by omega) hRc hRs hcap kret kthr
                cases v with
                | none => simpa using this
                | some v => simpa using this
              · intro k q ce H1 locs1 hk6 hk
                cases hk
            · rename_i k M' h1
              have hmono := xexec_mono _ _ _ _ _ _ h1
              dsimp only at hmono
              split at h
              · rename_i hnil
                cases h
                have hmet := xmet_of hQj m4 m2 hmono (by first | omega | (dsimp only at *; omega)) (ih d' x.2.2.1 _ M _ (by omega) h1)
                obtain ⟨-, hrun⟩ := x_run (i := i) (pc := F.1) (locs := locs) (cells := cells) (slots := slots) hx hb hml hown hts hZ hK hRf hRl hQ hcod hkd hok hS hD hL.1 hmay hmet (by dsimp only at *; omega) (by dsimp only at *; omega)
                refine x_behind hrun hS ?_ ?_
                · intro v' H1 locs1 hv' hD1 hS1
                  cases hv'
                · intro k' q ce H1 locs1 hk6 hk hD1 hS1 hce hcv hcl
                  cases hk
                  obtain ⟨Qc, XC, mc, ms, rfl, hmc, hms, hXC⟩ := kthr k rfl hk6
                  dsimp only at *
                  refine vx_out (E := xExc.getD k "") (ce := ce) (fun z hz => ?_) hlocks hce hcv hcl (fun t ht hal => hXC t hal (by rw [ht]; exact hD1) (hS1.F ht)) hS1.2.2 (by omega) (by omega)
                  rw [htab, hnil] at hz
                  cases hz
              · split at h
                · cases h
                · rename_i hne o9 F' hcatch
                  have hmono2 := xexec_mono _ _ _ _ _ _ h
                  have hmet := xmet_of hQj m4 m2 hmono (by first | omega | (dsimp only at *; omega)) (ih d' x.2.2.1 _ M _ (by omega) h1)
                  obtain ⟨-, hrun⟩ := x_run (i := i) (pc := F.1) (locs := locs) (cells := cells) (slots := slots) hx hb hml hown hts hZ hK hRf hRl hQ hcod hkd hok hS hD hL.1 hmay hmet (by dsimp only at *; omega) (by dsimp only at *; omega)
                  refine x_behind hrun hS ?_ ?_
                  · intro v' H1 locs1 hv' hD1 hS1
                    cases hv'
                  · intro k' q ce H1 locs1 hk6 hk hD1 hS1 hce hcv hcl
                    cases hk
                    have hk3 := xok_hh hQ.1 hne
                    refine x_catch hx hb hown hts htab hZ hQ hk3.2 hk3.1 hL hk6 hcatch hce hcv hcl ?_
                    intro ls' hL' hnil
                    have := ih (d' + 1) i F' M' r hi h p e s m args below meth c R H1 locs1 (cells + (M'.2.2.1 - M.2.2.1)) (slots + (M'.2.2.2 - M.2.2.2)) Q ls' C0 S0 hx hb hml hown hts hname hlocks htab hZ hK hRf hRl hS1 hD1 hL' (by omega) (by omega) hRc hRs hcap kret kthr
                    rw [hnil] at this
                    exact this
          · cases h
      · rename_i hkd
        simp only [cond_eq_ite] at h
        split at h
        · rename_i hsm
          cases h
          obtain ⟨hd, hp⟩ := hQ.2 _ _ hcod
          obtain ⟨idx, hi1, hi2, hi3⟩ := x_kd3 hkd hp
          rw [hi1, hi2] at hd
          obtain ⟨t1, t2, -⟩ := xthr_use hi3
          obtain ⟨Qc, XC, mc, ms, rfl, hmc, hms, hXC⟩ := kthr _ rfl t2
          dsimp only at hmc hms hRc hRs hXC
          refine x_throw (x := x) hl hx hb (by rw [hml]; exact hL.1) hown hts hlocks htab hZ (by omega) (by omega) hS hi3 hd (by rw [xv_cats]; exact Nat.le_of_ble_eq_true hsm) (by omega) (by omega) (by omega) (by omega) ?_
          intro t hal hsz hq
          refine hXC t hal (xDy.gap hρ (by dsimp only at hcap; omega) hD hsz hq) ⟨Nat.le_trans hS.1 (by omega), fun q h1 h2 => ?_⟩
          rw [hq q (Nat.lt_of_lt_of_le h1 hS.1)]
          exact hS.2.1 q h1 h2
        · cases h
      · cases h

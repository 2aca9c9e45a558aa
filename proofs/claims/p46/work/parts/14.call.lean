/-! A call of the small machine is a call of the machine. -/
theorem xmlk_use {i idx : Nat} {x : xI} (h : xmlk i idx x = true) : x.2.2.1 < 178 ∧ (Cond.methodLink (xmd i).1.cls idx (xmd x.2.2.1).1 ∈ xW ∨ Cond.methodLinkNest (xmd i).1.cls idx (xmd x.2.2.1).1 "CheckmarkOffice" ∈ xNest) := by
  unfold xmlk at h
  rw [Bool.and_eq_true] at h
  refine ⟨Nat.lt_of_lt_of_le (Nat.lt_succ_self _) (Nat.le_of_ble_eq_true h.1), ?_⟩
  have h2 := h.2
  split at h2
  · exact Or.inl (xat_w h2 rfl)
  · exact Or.inr (List.mem_filter.mpr ⟨xat_use h2, rfl⟩)
set_option maxHeartbeats 1000000 in
theorem x_run {p : Program} {l : Launch} {e : Env} {R : Room} {s : State} {m : MethodId} {args : Array Value} {below : List Frame} {meth : Method} {c : Code} {H : Heap} {locs : List Loc} {cells slots : Nat} {ls : Array Slot} {D : va_G} {A : Nat → Prop} {ρ : Nat → Nat} {dA : Nat → ClassId} {b0 : Nat} {S : Nat × (Nat → Int32)} {i pc d : Nat} {x : xI} {st : List Value} {M : xM} {r : xR}
    (hx : p.tables.exec = Jvm.exec) (hb : c.code = (xmd i).2.1) (hml : c.maxLocals = (xmd i).2.2.1) (hown : s.vm.findClass (xmd i).1.cls = some m.cls) (hts : ∀ w ∈ xW, w.before args s = true) (hZ : xZ ρ b0 S A s s.heap) (hK : va_K D xCl (xtys dA) s) (hRf : 8 + (d + 1) ≤ R.frames) (hRl : 100 + 64 * (d + 1) ≤ R.locals)
    (hQ : xokQ i) (hcod : xcod i pc = some x) (hkd : xkd x = 2) (hok : ∀ j, j < 179 → xokQ j) (hS : va_S A s.heap H locs) (hD : xDy ρ dA D A M H) (hsz : ls.size = (xmd i).2.2.1)
    (hmay : xmay x st M = true) (hM : xMet l ρ b0 S A dA D d x.2.2.1 (xargs (xmd x.2.2.1).2.2.2.2.2.1 st) M r) (hfc : cells + (r.2.2.2.1 - M.2.2.1) ≤ R.cells) (hfs : slots + (r.2.2.2.2 - M.2.2.2) ≤ R.slots) :
    x.2.2.1 < 178 ∧ vx_Run p l e R s m args below meth c H locs cells slots (r.2.2.2.1 - M.2.2.1) (r.2.2.2.2 - M.2.2.2) (F0 m pc ls (st.map (xv ρ))) ((st.drop (xmd x.2.2.1).2.2.2.2.2.1).map (xv ρ)) (xQc ρ A dA D r #[]) (xXC ρ A dA D r) A := by
  obtain ⟨hd, hp⟩ := hQ.2 pc _ hcod
  obtain ⟨k1, k2, k3, k4, k5, k6⟩ := xmay_use hmay
  obtain ⟨ins, len, a, b, w, v⟩ := x
  dsimp only at hd hp hM k1 k2 k3 k4 k5 k6 ⊢
  have fix : CallFix p m c (xmd i).2.1 (xmd i).2.2.1 s args xW (xmd i).1.cls := ⟨hx, hb, hml, hown, hts⟩
  have hst := xargs_st (xmd a).2.2.2.2.2.1 st ρ
  have hln := xargs_len k1
  generalize xargs (xmd a).2.2.2.2.2.1 st = as at hst hln hM k2 k5 k6
  have hW8 : 2 * (F0 m pc ls (st.map (xv ρ))).monitorRoom + (((st.drop (xmd a).2.2.2.2.2.1).map (xv ρ)).map fun v => v.category).sum ≤ 8 := by
    rw [xv_cats]
    show 2 * 0 + _ ≤ 8
    omega
  have hPU : ∀ U : State, U.heap = H → s.WarmedH U.vm → xPc ρ b0 S A dA D as M (as.map (xv ρ)).toArray U := by
    intro U hU hW
    refine ⟨rfl, ?_, hK.moved hW.alike, by rw [hU]; exact hD⟩
    rw [hU]
    exact hZ.move hW hS.1 hS.2.1
  have hpay : ∀ (cw : Cond), cw ∈ xW → ∀ w ∈ cw :: xW, ∀ (a' : Array Value) (U : State), s.WarmedH U.vm → w.before a' U = true := fun cw hcw => pay_in hts (fun w hw => by
    rcases List.mem_cons.mp hw with rfl | hw
    · exact xW_good _ hcw
    · exact xW_good _ hw)
  have hroom : ∀ (ml : Nat), ml ≤ 40 → (xRm d (r.2.2.2.1 - M.2.2.1) (r.2.2.2.2 - M.2.2.2)).frames + 1 ≤ R.frames ∧ 8 + (ml + 11) + (xRm d (r.2.2.2.1 - M.2.2.1) (r.2.2.2.2 - M.2.2.2)).locals ≤ R.locals := fun ml hml => ⟨by show 8 + d + 1 ≤ _; omega, by show 8 + (ml + 11) + (100 + 64 * d) ≤ _; omega⟩
  have hblind := xPc_blind ρ b0 S A dA D as M
  unfold xMet at hM
  cases ins <;> try (simp [xkd] at hkd; done)
  case new idx =>
    exfalso
    unfold xkd at hkd
    dsimp only at hkd
    cases hq : Nat.ble 2000 a <;> rw [hq] at hkd <;> cases hkd
  case invokespecial idx =>
    simp only [xokP, Bool.and_eq_true, decide_eq_true_eq] at hp
    obtain ⟨e1, e2⟩ := hp
    subst e1
    have h1 : Nat.ble 1000 a = false := by
      cases hz : Nat.ble 1000 a with
      | false => rfl
      | true => simp [xkd, hz] at hkd
    have h2 : Nat.ble 2000 a = false := by
      cases hz : Nat.ble 2000 a with
      | false => rfl
      | true =>
        have := Nat.le_of_ble_eq_true hz
        rw [Nat.ble_eq_true_of_le (by omega : 1000 ≤ a)] at h1
        cases h1
    have h3 : Nat.beq a 1000 = false := by
      cases hz : Nat.beq a 1000 with
      | false => rfl
      | true =>
        have := Nat.eq_of_beq_eq_true hz
        rw [Nat.ble_eq_true_of_le (by omega : 1000 ≤ a)] at h1
        cases h1
    rw [h2, h3] at e2
    simp only [cond_false, Bool.and_eq_true] at e2
    obtain ⟨e2, e3⟩ := e2
    obtain ⟨ha, hlk⟩ := xmlk_use e2
    dsimp only at ha hlk
    have hkd2 := Nat.eq_of_beq_eq_true e3
    obtain ⟨hm1, hm2, hm3, hm4⟩ := xokM_use (hok a (by omega)).1
    obtain ⟨q1, q2, q3, q4, q5, q6, q7⟩ := xokM_k2 (hok a (by omega)).1 hkd2
    obtain ⟨h, r', rfl⟩ := k6 hkd2
    have hcw : xcw a = .code (xmd a).1 (xmd a).2.1 (xmd a).2.2.1 none := by unfold xcw; rw [q4, q5]
    rw [hcw] at hM
    have hr2 := hroom _ hm1
    have hsig : ∀ sig, parseMethodDescriptor (xmd a).1.desc = some sig → r'.length = sig.parameters.length := by
      intro sig hsig
      rw [hsig] at q7
      have : sig.parameters.length + 1 = _ := Option.some.inj q7
      have e9 : (Value.ref h :: r').length = r'.length + 1 := rfl
      omega
    have hstack : (F0 m pc ls (st.map (xv ρ))).stack = (r'.map (xv ρ)).reverse ++ .ref (ρ h) :: (st.drop (xmd a).2.2.2.2.2.1).map (xv ρ) := by
      show st.map (xv ρ) = _
      rw [hst]
      simp [xv]
    refine ⟨ha, ?_⟩
    rcases hlk with hlk | hlk
    · exact vx_runI (n := r'.length) (b := ρ h) (As := r'.map (xv ρ)) fix hM ⟨⟨rfl, rfl, hr2.1, hr2.2, hpay _ q1, List.mem_cons_self, hts _ q1, hts _ q3, ⟨hm3, hm4⟩, hsig, hts _ hlk⟩, q6, hts _ q2⟩ ⟨hblind, hPU⟩ rfl (by simp) hsz hstack hW8 hd ⟨hfc, hfs⟩
    · have hz := va_Nw.use (A := args) rfl (hZ.2.2.2.2.2.2.2.1 _ hlk)
      exact vx_runIN (n := r'.length) (b := ρ h) (As := r'.map (xv ρ)) fix hM ⟨⟨⟨rfl, rfl, hr2.1, hr2.2, hpay _ q1, List.mem_cons_self⟩, hts _ q1, hts _ q3, ⟨hm3, hm4⟩, hsig, hz⟩, q6, hts _ q2⟩ ⟨hblind, hPU⟩ rfl (by simp) hsz hstack hW8 hd ⟨hfc, hfs⟩
  case invokevirtual idx =>
    simp only [xokP, Bool.and_eq_true, decide_eq_true_eq] at hp
    obtain ⟨e1, e9⟩ := hp
    subst e1
    have h9 : Nat.beq a 1003 = false := by
      cases hz : Nat.beq a 1003 with
      | false => rfl
      | true => simp [xkd, hz] at hkd
    rw [h9] at e9
    simp only [cond_false, Bool.and_eq_true] at e9
    obtain ⟨⟨e2, e3⟩, e4⟩ := e9
    obtain ⟨ha, hlk⟩ := xmlk_use e2
    dsimp only at ha hlk
    have hkd2 := Nat.eq_of_beq_eq_true e3
    obtain ⟨hm1, hm2, hm3, hm4⟩ := xokM_use (hok a (by omega)).1
    obtain ⟨q1, q2, q3, q4, q5, q6⟩ := xokM_k1 (hok a (by omega)).1 hkd2
    obtain ⟨h, r', fs, rfl, hcell⟩ := k5 hkd2
    have hcw : xcw a = .code (xmd a).1 (xmd a).2.1 (xmd a).2.2.1 (xmd a).2.2.2.1 := by unfold xcw; rw [q5]
    rw [hcw] at hM
    have hr2 := hroom _ hm1
    have hsig : ∀ sig, parseMethodDescriptor (xmd a).1.desc = some sig → r'.length = sig.parameters.length := by
      intro sig hsig
      rw [hsig] at q6
      have : sig.parameters.length + 1 = _ := Option.some.inj q6
      have e9 : (Value.ref h :: r').length = r'.length + 1 := rfl
      omega
    have hstack : (F0 m pc ls (st.map (xv ρ))).stack = (r'.map (xv ρ)).reverse ++ .ref (ρ h) :: (st.drop (xmd a).2.2.2.2.2.1).map (xv ρ) := by
      show st.map (xv ρ) = _
      rw [hst]
      simp [xv]
    refine ⟨ha, ?_⟩
    split at e4
    · rename_i C T N hcl
      have e5 := of_decide_eq_true e4
      have hrecv := va_recv hK (x_one hD hcell) hcl (q0 := 0) rfl
      dsimp only at hrecv
      rw [← e5] at hrecv
      rcases hlk with hlk | hlk
      · exact vx_runV (n := r'.length) (b := ρ h) (As := r'.map (xv ρ)) fix hM ⟨⟨rfl, rfl, hr2.1, hr2.2, hpay _ q1, List.mem_cons_self, hts _ q1, hts _ q4, ⟨hm3, hm4⟩, hsig, hts _ hlk⟩, hts _ q2, hts _ q3⟩ ⟨hblind, hrecv, hPU⟩ rfl (by simp) hsz hstack hW8 hd ⟨hfc, hfs⟩
      · have hz := va_Nw.use (A := args) rfl (hZ.2.2.2.2.2.2.2.1 _ hlk)
        exact vx_runVN (n := r'.length) (b := ρ h) (As := r'.map (xv ρ)) fix hM ⟨⟨⟨rfl, rfl, hr2.1, hr2.2, hpay _ q1, List.mem_cons_self⟩, hts _ q1, hts _ q4, ⟨hm3, hm4⟩, hsig, hz⟩, hts _ q2, hts _ q3⟩ ⟨hblind, hrecv, hPU⟩ rfl (by simp) hsz hstack hW8 hd ⟨hfc, hfs⟩
    · cases e4
  case invokestatic idx =>
    simp only [xokP, Bool.and_eq_true, decide_eq_true_eq] at hp
    obtain ⟨e1, e2⟩ := hp
    subst e1
    have h1 : Nat.ble 1000 a = false := by
      cases hz : Nat.ble 1000 a with
      | false => rfl
      | true => simp [xkd, hz] at hkd
    have h2 : Nat.beq a 1001 = false := by
      cases hz : Nat.beq a 1001 with
      | false => rfl
      | true =>
        have := Nat.eq_of_beq_eq_true hz
        rw [Nat.ble_eq_true_of_le (by omega : 1000 ≤ a)] at h1
        cases h1
    have h3 : Nat.beq a 1002 = false := by
      cases hz : Nat.beq a 1002 with
      | false => rfl
      | true =>
        have := Nat.eq_of_beq_eq_true hz
        rw [Nat.ble_eq_true_of_le (by omega : 1000 ≤ a)] at h1
        cases h1
    rw [h2, h3] at e2
    simp only [cond_false, Bool.and_eq_true, Bool.or_eq_true, decide_eq_true_eq] at e2
    obtain ⟨e2, e3⟩ := e2
    obtain ⟨ha, hlk⟩ := xmlk_use e2
    dsimp only at ha hlk
    obtain ⟨hm1, hm2, hm3, hm4⟩ := xokM_use (hok a (by omega)).1
    have hr2 := hroom _ hm1
    have hstack : (F0 m pc ls (st.map (xv ρ))).stack = (as.map (xv ρ)).reverse ++ (st.drop (xmd a).2.2.2.2.2.1).map (xv ρ) := hst
    refine ⟨ha, ?_⟩
    rcases e3 with e3 | e3
    · have hkd2 := Nat.eq_of_beq_eq_true e3
      obtain ⟨q1, q2, q3, q4, q5⟩ := xokM_k0 (hok a (by omega)).1 hkd2
      have hcw : xcw a = .code (xmd a).1 (xmd a).2.1 (xmd a).2.2.1 (xmd a).2.2.2.1 := by unfold xcw; rw [q4]
      rw [hcw] at hM
      have hsig : ∀ sig, parseMethodDescriptor (xmd a).1.desc = some sig → as.length = sig.parameters.length := by
        intro sig hsig
        rw [hsig] at q5
        have : sig.parameters.length = _ := Option.some.inj q5
        omega
      rcases hlk with hlk | hlk
      · exact vx_runS (n := as.length) (As := as.map (xv ρ)) fix hM ⟨⟨rfl, rfl, hr2.1, hr2.2, hpay _ q1, List.mem_cons_self, hts _ q1, hts _ q3, ⟨hm3, hm4⟩, hsig, hts _ hlk⟩, hts _ q2⟩ ⟨hblind, hPU⟩ rfl (by simp) hsz hstack hW8 hd ⟨hfc, hfs⟩
      · have hz := va_Nw.use (A := args) rfl (hZ.2.2.2.2.2.2.2.1 _ hlk)
        exact vx_runSN (n := as.length) (As := as.map (xv ρ)) fix hM ⟨⟨⟨rfl, rfl, hr2.1, hr2.2, hpay _ q1, List.mem_cons_self⟩, hts _ q1, hts _ q3, ⟨hm3, hm4⟩, hsig, hz⟩, hts _ q2, trivial⟩ ⟨hblind, hPU⟩ rfl (by simp) hsz hstack hW8 hd ⟨hfc, hfs⟩
    · have hkd2 := Nat.eq_of_beq_eq_true e3.1
      have hlk : Cond.methodLink (xmd i).1.cls idx (xmd a).1 ∈ xW := by
        unfold xmlk at e2
        rw [Bool.and_eq_true] at e2
        have h9 := e2.2
        rw [e3.2] at h9
        exact xat_w h9 rfl
      obtain ⟨q1, q2, q3, q4, -, -, q5⟩ := xokM_k3 (hok a (by omega)).1 hkd2
      have hcw : xcw a = .codeWith (xmd a).1 (xmd a).2.1 (xmd a).2.2.1 (xmd a).2.2.2.1 (xmd a).2.2.2.2.2.2 := by
        unfold xcw
        split
        · rename_i h; exact absurd h q4
        · rfl
      rw [hcw] at hM
      have hsig : ∀ sig, parseMethodDescriptor (xmd a).1.desc = some sig → as.length = sig.parameters.length := by
        intro sig hsig
        rw [hsig] at q5
        have : sig.parameters.length = _ := Option.some.inj q5
        omega
      exact vx_runSX (n := as.length) (As := as.map (xv ρ)) fix hM ⟨⟨rfl, rfl, hr2.1, hr2.2, hpay _ q1, List.mem_cons_self⟩, hts _ q1, hts _ q3, ⟨hm3, hm4⟩, hsig, hts _ hlk, hts _ q2⟩ ⟨hblind, hPU⟩ rfl (by simp) hsz hstack hW8 hd ⟨hfc, hfs⟩

/-! Every run of the small machine is the machine's. -/
theorem xthr_use {i pc idx : Nat} {x : xI} (h : xthr i pc idx x = true) : (xmd i).1.cls = RX11 ∧ x.2.2.1 - 2000 < 6 ∧ Cond.classLink RX11 idx (xExc.getD (x.2.2.1 - 2000) "") ∈ xW ∧ (∃ tx, Cond.stringRef RX11 x.2.2.2.1 tx ∈ lw_tbl) ∧ decode (xmd i).2.1 (pc + 3) = .ok (.dup, 1) ∧
    ((decode (xmd i).2.1 (pc + 4) = .ok (.ldc x.2.2.2.1, 2) ∧ decode (xmd i).2.1 (pc + 6) = .ok (.invokespecial (xXic.getD (x.2.2.1 - 2000) 0), 3) ∧ decode (xmd i).2.1 (pc + 9) = .ok (.athrow, 1)) ∨
      (decode (xmd i).2.1 (pc + 4) = .ok (.ldc_w x.2.2.2.1, 3) ∧ decode (xmd i).2.1 (pc + 7) = .ok (.invokespecial (xXic.getD (x.2.2.1 - 2000) 0), 3) ∧ decode (xmd i).2.1 (pc + 10) = .ok (.athrow, 1))) ∧ (xmd i).2.2.2.2.2.2 = [] := by
  unfold xthr at h
  simp only [Bool.and_eq_true, decide_eq_true_eq, List.isEmpty_iff] at h
  obtain ⟨⟨⟨⟨⟨⟨h1, h2⟩, h3⟩, h4⟩, h5⟩, h6⟩, h7⟩ := h
  refine ⟨h1, Nat.lt_of_lt_of_le (Nat.lt_succ_self _) (Nat.le_of_ble_eq_true h2), xat_w h3 rfl, ?_, h5, ?_, h7⟩
  · obtain ⟨w, hw, hq⟩ := List.any_eq_true.mp h4
    split at hq
    · rename_i o k tx
      rw [Bool.and_eq_true, decide_eq_true_eq] at hq
      have e1 := hq.1
      have e2 := Nat.eq_of_beq_eq_true hq.2
      subst e1; subst e2
      exact ⟨_, hw⟩
    · cases hq
  · split at h6
    · simp only [Bool.and_eq_true, decide_eq_true_eq] at h6
      exact Or.inl ⟨h6.1.1, h6.1.2, h6.2⟩
    · simp only [Bool.and_eq_true, decide_eq_true_eq] at h6
      exact Or.inr ⟨h6.1.1, h6.1.2, h6.2⟩
    · cases h6
theorem xBk_on {w : Cond} (hk : xBk w = true) : w.onTables = true := by
  cases w <;> first | rfl | cases hk
set_option maxHeartbeats 1000000 in
theorem x_throw {p : Program} {l : Launch} {e : Env} {R : Room} {s : State} {m : MethodId} {args : Array Value} {below : List Frame} {meth : Method} {c : Code} {H : Heap} {locs : List Loc} {cells slots mc ms : Nat} {ls : Array Slot} {rest : List Value} {A : Nat → Prop} {ρ : Nat → Nat} {b0 : Nat} {S : Nat × (Nat → Int32)} {i pc idx : Nat} {x : xI} {Qc : Array Value → State → Outcome → State → Prop} {XC : String → State → State → Prop}
    (hl : l.stackTraces = false) (hx : p.tables.exec = Jvm.exec) (hb : c.code = (xmd i).2.1) (hsz : ls.size = c.maxLocals) (hown : s.vm.findClass (xmd i).1.cls = some m.cls) (hts : ∀ w ∈ xW, w.before args s = true) (hlocks : meth.locks = false) (htab : c.exceptionTable.toList = tableOf (xmd i).2.2.2.2.2.2) (hZ : xZ ρ b0 S A s s.heap) (hRf : 8 ≤ R.frames) (hRl : 100 ≤ R.locals)
    (hS : va_S A s.heap H locs) (hthr : xthr i pc idx x = true) (hd : decode (xmd i).2.1 pc = .ok (.new idx, 3)) (hsm : (rest.map fun v => v.category).sum ≤ 8) (hc : cells + 1 ≤ mc) (hs : slots + 6 ≤ ms) (hRc : cells + 1 ≤ R.cells) (hRs : slots + 6 ≤ R.slots)
    (hX : ∀ t : State, s.vm.Alike t.vm → t.heap.size = H.size + 1 → (∀ q : Nat, q < H.size → t.heap[q]? = H[q]?) → XC (xExc.getD (x.2.2.1 - 2000) "") s t) :
    W p l e R s m args below meth c H locs cells slots (vx_MQ below Qc XC args s mc ms A) (F0 m pc ls rest) := by
  obtain ⟨h1, h2, h3, ⟨tx, h4⟩, h5, h6, h7⟩ := xthr_use hthr
  rw [h1] at hown
  obtain ⟨-, -, -, -, -, hU, hN, -, hstr, hbd, -⟩ := hZ
  obtain ⟨sa, hsa⟩ := hstr _ _ h4
  obtain ⟨r0, r1, r2, r5⟩ := xXrx_ok _ h2
  have hat : ∀ w ∈ xThr (x.2.2.1 - 2000), w.before args s = true :=
    vx_hat (B := xBd (x.2.2.1 - 2000)) (fun w hw => hts w (xThr_good _ h2 w hw)) (fun w hw => hw) (fun w hw => va_Nw.use (xBk_on (xBd_kind _ h2 w hw)) (hbd _ h2 w hw))
  have hgood : ∀ w ∈ Cond.classLink RX11 idx (xExc.getD (x.2.2.1 - 2000) "") :: Cond.initialized (xExc.getD (x.2.2.1 - 2000) "") :: xThr (x.2.2.1 - 2000), vx_ot w = true := by
    intro w hw
    rcases List.mem_cons.mp hw with rfl | hw
    · rfl
    · exact xThr_ot _ h2 w hw
  have hout : ∀ (z : ExceptionTableEntry), z ∈ c.exceptionTable.toList → False := by
    rw [htab, h7]
    intro z hz
    cases hz
  have hn : ∀ n ∈ (["java/lang/RuntimeException", "java/lang/Exception"] : List String), Bundle.fit n = true := by decide +kernel
  rcases h6 with ⟨d4, d6, d9⟩ | ⟨d4, d7, d10⟩
  · exact xo_throwS (rx := xXrx (x.2.2.1 - 2000)) hx hb hl r0 r1 r2 r5 hown (xThr_fit _ h2) hn (hts _ h3) (hts _ (xThr_ini _ h2)) hsa hat hgood hU hN hS hsz hd h5 d4 d6 d9 (fun z hz => (hout z hz).elim) (by show 2 + 3 < _; omega) (by show _ + (13 * (2 + 1) + 43) ≤ _; omega) hRc hRs hlocks hX hS.2.2 hc hs
  · exact xo_throwSW (rx := xXrx (x.2.2.1 - 2000)) hx hb hl r0 r1 r2 r5 hown (xThr_fit _ h2) hn (hts _ h3) (hts _ (xThr_ini _ h2)) hsa hat hgood hU hN hS hsz hd h5 d4 d7 d10 (fun z hz => (hout z hz).elim) (by show 2 + 3 < _; omega) (by show _ + (13 * (2 + 1) + 43) ≤ _; omega) hRc hRs hlocks hX hS.2.2 hc hs
theorem xmay_use {x : xI} {st : List Value} {M : xM} (h : xmay x st M = true) : (xmd x.2.2.1).2.2.2.2.2.1 ≤ st.length ∧ (xlay (xargs (xmd x.2.2.1).2.2.2.2.2.1 st)).length ≤ (xmd x.2.2.1).2.2.1 ∧ ((st.drop (xmd x.2.2.1).2.2.2.2.2.1).map fun v => v.category).sum ≤ 8 ∧ (xmd x.2.2.1).2.2.2.2.1 < 4 ∧
    ((xmd x.2.2.1).2.2.2.2.1 = 1 → ∃ h r fs, xargs (xmd x.2.2.1).2.2.2.2.2.1 st = .ref h :: r ∧ M.1[h]? = some (.inr (x.2.2.2.1, fs))) ∧ ((xmd x.2.2.1).2.2.2.2.1 = 2 → ∃ h r, xargs (xmd x.2.2.1).2.2.2.2.2.1 st = .ref h :: r) := by
  unfold xmay at h
  simp only [Bool.and_eq_true] at h
  obtain ⟨⟨⟨h1, h2⟩, h3⟩, h4⟩ := h
  refine ⟨Nat.le_of_ble_eq_true h1, Nat.le_of_ble_eq_true h2, Nat.le_of_ble_eq_true h3, ?_, fun hk => ?_, fun hk => ?_⟩
  · split at h4
    · rename_i hk; rw [hk]; decide
    · rename_i hk; rw [hk]; decide
    · rename_i hk; rw [hk]; decide
    · rename_i hk; rw [hk]; decide
    · cases h4
  · have h5 : (match xargs (xmd x.2.2.1).2.2.2.2.2.1 st with
      | .ref h :: _ => (match M.1[h]? with | some (.inr (ci, _)) => Nat.beq ci x.2.2.2.1 | _ => false)
      | _ => false) = true := by rw [hk] at h4; exact h4
    split at h5
    · rename_i hh rr harg
      split at h5
      · rename_i ci fs hget
        have := Nat.eq_of_beq_eq_true h5
        subst this
        exact ⟨_, _, _, harg, hget⟩
      · cases h5
    · cases h5
  · have h5 : (match xargs (xmd x.2.2.1).2.2.2.2.2.1 st with | .ref _ :: _ => true | _ => false) = true := by rw [hk] at h4; exact h4
    split at h5
    · rename_i hh rr harg
      exact ⟨_, _, harg⟩
    · cases h5
theorem xargs_st (n : Nat) (st : List Value) (ρ : Nat → Nat) : st.map (xv ρ) = ((xargs n st).map (xv ρ)).reverse ++ (st.drop n).map (xv ρ) := by
  unfold xargs
  rw [← List.map_reverse, List.reverse_reverse, ← List.map_append, List.take_append_drop]
theorem xargs_len {n : Nat} {st : List Value} (h : n ≤ st.length) : (xargs n st).length = n := by
  unfold xargs
  rw [List.length_reverse, List.length_take]
  omega

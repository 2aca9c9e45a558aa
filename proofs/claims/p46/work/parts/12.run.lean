/-! Methods by the small machine: contracts out of runs. -/
theorem xokM_use {i : Nat} (h : xokM i = true) : (xmd i).2.2.1 ≤ 40 ∧ plainName (xmd i).1.cls = true ∧ (xmd i).1.cls ≠ "java/lang/invoke/MethodHandle" ∧ (xmd i).1.cls ≠ "java/lang/invoke/VarHandle" := by
  unfold xokM at h
  generalize xmd i = q at *
  obtain ⟨y, bs, ml, rt, kd, na, hh⟩ := q
  simp only [Bool.and_eq_true, decide_eq_true_eq] at h
  exact ⟨Nat.le_of_ble_eq_true h.1.1.1.1, h.1.1.1.2, h.1.1.2, h.1.2⟩
theorem xokM_k0 {i : Nat} (h : xokM i = true) (hk : (xmd i).2.2.2.2.1 = 0) : Cond.code (xmd i).1 (xmd i).2.1 (xmd i).2.2.1 (xmd i).2.2.2.1 ∈ xW ∧ Cond.static (xmd i).1 ∈ xW ∧ Cond.initialized (xmd i).1.cls ∈ xW ∧ (xmd i).2.2.2.2.2.2 = [] ∧ (parseMethodDescriptor (xmd i).1.desc).map (fun d => d.parameters.length) = some (xmd i).2.2.2.2.2.1 := by
  unfold xokM at h
  generalize hq : xmd i = q at *
  obtain ⟨y, bs, ml, rt, kd, na, hh⟩ := q
  dsimp only at hk ⊢
  subst hk
  simp only [Bool.and_eq_true, decide_eq_true_eq, List.isEmpty_iff] at h
  obtain ⟨-, ⟨⟨⟨h1, h2⟩, h3⟩, h4⟩, h5⟩ := h
  exact ⟨xat_w h1 rfl, xat_w h2 rfl, xat_w h3 rfl, h4, h5⟩
theorem xokM_k1 {i : Nat} (h : xokM i = true) (hk : (xmd i).2.2.2.2.1 = 1) : Cond.code (xmd i).1 (xmd i).2.1 (xmd i).2.2.1 (xmd i).2.2.2.1 ∈ xW ∧ Cond.instanceMethod (xmd i).1 ∈ xW ∧ Cond.selects (xmd i).1.cls (xmd i).1 (xmd i).1 ∈ xW ∧ Cond.initialized (xmd i).1.cls ∈ xW ∧ (xmd i).2.2.2.2.2.2 = [] ∧ (parseMethodDescriptor (xmd i).1.desc).map (fun d => d.parameters.length + 1) = some (xmd i).2.2.2.2.2.1 := by
  unfold xokM at h
  generalize hq : xmd i = q at *
  obtain ⟨y, bs, ml, rt, kd, na, hh⟩ := q
  dsimp only at hk ⊢
  subst hk
  simp only [Bool.and_eq_true, decide_eq_true_eq, List.isEmpty_iff] at h
  obtain ⟨-, ⟨⟨⟨⟨h1, h2⟩, h3⟩, h4⟩, h5⟩, h6⟩ := h
  exact ⟨xat_w h1 rfl, xat_w h2 rfl, xat_w h3 rfl, xat_w h4 rfl, h5, h6⟩
theorem xokM_k2 {i : Nat} (h : xokM i = true) (hk : (xmd i).2.2.2.2.1 = 2) : Cond.code (xmd i).1 (xmd i).2.1 (xmd i).2.2.1 none ∈ xW ∧ Cond.instanceMethod (xmd i).1 ∈ xW ∧ Cond.initialized (xmd i).1.cls ∈ xW ∧ (xmd i).2.2.2.2.2.2 = [] ∧ (xmd i).2.2.2.1 = none ∧ (xmd i).1.name = "<init>" ∧ (parseMethodDescriptor (xmd i).1.desc).map (fun d => d.parameters.length + 1) = some (xmd i).2.2.2.2.2.1 := by
  unfold xokM at h
  generalize hq : xmd i = q at *
  obtain ⟨y, bs, ml, rt, kd, na, hh⟩ := q
  dsimp only at hk ⊢
  subst hk
  simp only [Bool.and_eq_true, decide_eq_true_eq, List.isEmpty_iff] at h
  obtain ⟨-, ⟨⟨⟨⟨⟨h1, h2⟩, h3⟩, h4⟩, h5⟩, h6⟩, h7⟩ := h
  subst h5
  exact ⟨xat_w h1 rfl, xat_w h2 rfl, xat_w h3 rfl, h4, rfl, h6, h7⟩
theorem xokM_k3 {i : Nat} (h : xokM i = true) (hk : (xmd i).2.2.2.2.1 = 3) : Cond.codeWith (xmd i).1 (xmd i).2.1 (xmd i).2.2.1 (xmd i).2.2.2.1 (xmd i).2.2.2.2.2.2 ∈ xW ∧ Cond.static (xmd i).1 ∈ xW ∧ Cond.initialized (xmd i).1.cls ∈ xW ∧ ¬ (xmd i).2.2.2.2.2.2 = [] ∧ (∀ h ∈ (xmd i).2.2.2.2.2.2, xcat h.2.2.2 < 6) ∧ (xmd i).1.cls = RL ∧ (parseMethodDescriptor (xmd i).1.desc).map (fun d => d.parameters.length) = some (xmd i).2.2.2.2.2.1 := by
  unfold xokM at h
  generalize hq : xmd i = q at *
  obtain ⟨y, bs, ml, rt, kd, na, hh⟩ := q
  dsimp only at hk ⊢
  subst hk
  simp only [Bool.and_eq_true, decide_eq_true_eq, Bool.not_eq_true', List.isEmpty_eq_false_iff, List.all_eq_true] at h
  obtain ⟨-, ⟨⟨⟨⟨⟨h1, h2⟩, h3⟩, h4⟩, h6⟩, h7⟩, h5⟩ := h
  exact ⟨xat_w h1 rfl, xat_w h2 rfl, xat_w h3 rfl, h4, fun z hz => Nat.lt_of_lt_of_le (Nat.lt_succ_self _) (Nat.le_of_ble_eq_true (h6 z hz)), h7, h5⟩
theorem xexec_mono {S : Nat × (Nat → Int32)} : ∀ (n d i : Nat) (F : xF) (M : xM) (r : xR), xexec S n d i F M = some r → M.2.2.1 ≤ r.2.2.2.1 ∧ M.2.2.2 ≤ r.2.2.2.2 := by
  intro n
  induction n with
  | zero => intro d i F M r h; cases h
  | succ n ih =>
    intro d i F M r h
    unfold xexec at h
    split at h
    · cases h
    · rename_i x hx
      split at h
      · split at h
        · rename_i r' h1
          obtain ⟨F', M'⟩ := r'
          have a := xone_mono h1
          have b := ih _ _ _ _ _ h
          exact ⟨Nat.le_trans a.1 b.1, Nat.le_trans a.2 b.2⟩
        · cases h
      · split at h
        · cases h; exact ⟨Nat.le_refl _, Nat.le_refl _⟩
        · cases h
      · split at h
        · cases h
        · simp only [cond_eq_ite] at h
          split at h
          · split at h
            · cases h
            · rename_i h1
              have a := ih _ _ _ _ _ h1
              have b := ih _ _ _ _ _ h
              exact ⟨Nat.le_trans a.1 b.1, Nat.le_trans a.2 b.2⟩
            · rename_i h1
              have a := ih _ _ _ _ _ h1
              split at h
              · cases h; exact a
              · split at h
                · cases h
                · have b := ih _ _ _ _ _ h
                  exact ⟨Nat.le_trans a.1 b.1, Nat.le_trans a.2 b.2⟩
          · cases h
      · simp only [cond_eq_ite] at h
        split at h
        · cases h; exact ⟨Nat.le_succ _, Nat.le_add_right _ _⟩
        · cases h
      · cases h
section XSF
variable (l : Launch) (ρ : Nat → Nat) (b0 : Nat) (S : Nat × (Nat → Int32)) (A : Nat → Prop) (dA : Nat → ClassId) (D : va_G)
/-- what a run of the small machine from a frame says of the machine -/
def xSF (d i : Nat) (F : xF) (M : xM) (r : xR) : Prop :=
  ∀ (p : Program) (e : Env) (s : State) (m : MethodId) (args : Array Value) (below : List Frame) (meth : Method) (c : Code) (R : Room) (H : Heap) (locs : List Loc) (cells slots : Nat) (Q : State → Prop) (ls : Array Slot) (C0 S0 : Nat),
    p.tables.exec = Jvm.exec → c.code = (xmd i).2.1 → c.maxLocals = (xmd i).2.2.1 → s.vm.findClass (xmd i).1.cls = some m.cls → (∀ w ∈ xW, w.before args s = true) → ((xmd i).1.name = "<init>" → meth.name = "<init>") → meth.locks = false → c.exceptionTable.toList = tableOf (xmd i).2.2.2.2.2.2 →
    xZ ρ b0 S A s s.heap → va_K D xCl (xtys dA) s → 8 + d ≤ R.frames → 100 + 64 * d ≤ R.locals →
    va_S A s.heap H locs → xDy ρ dA D A M H → xLo ρ F.2.1 ls (xmd i).2.2.1 → cells + C0 = M.2.2.1 → slots + S0 = M.2.2.2 → r.2.2.2.1 ≤ R.cells + C0 → r.2.2.2.2 ≤ R.slots + S0 → r.2.2.2.1 ≤ 999999 →
    (∀ (v : Option Value) (ins : Instr) (H' : Heap) (locs' : List Loc) (pc' : Nat) (ls' : Array Slot) (st' : List Value) (c' s' : Nat), r.1 = .inr v → decode (xmd i).2.1 pc' = .ok (ins, 1) → xret (xmd i).2.2.2.1 ins st' = some v → xDy ρ dA D A r.2 H' → va_S A s.heap H' locs' → c' + C0 = r.2.2.2.1 → s' + S0 = r.2.2.2.2 → W p l e R s m args below meth c H' locs' c' s' Q (F0 m pc' ls' (st'.map (xv ρ)))) →
    (∀ k, r.1 = .inl k → k < 6 → ∃ (Qc : Array Value → State → Outcome → State → Prop) (XC : String → State → State → Prop) (mc ms : Nat), Q = vx_MQ below Qc XC args s mc ms A ∧ r.2.2.2.1 ≤ mc + C0 ∧ r.2.2.2.2 ≤ ms + S0 ∧ ∀ t : State, s.vm.Alike t.vm → xDy ρ dA D A r.2 t.heap → va_F A s t → XC (xExc.getD k "") s t) →
    W p l e R s m args below meth c H locs cells slots Q (F0 m F.1 ls (F.2.2.map (xv ρ)))
end XSF
theorem xret_cases {rt : Option FieldType} {ins : Instr} {st : List Value} {v : Option Value} (h : xret rt ins st = some v) :
    (∃ x ty, ins = .ireturn ∧ st = [.int x] ∧ rt = some ty ∧ narrow ty (.int x) = .int x ∧ v = some (.int x)) ∨ (∃ x, ins = .lreturn ∧ st = [.long x] ∧ rt = some .long ∧ v = some (.long x)) ∨ (ins = .return_ ∧ st = [] ∧ rt = none ∧ v = none) := by
  cases ins <;> simp only [xret] at h <;> (try cases h)
  · split at h
    · cases h; exact Or.inl ⟨_, _, rfl, rfl, rfl, rfl, rfl⟩
    · rename_i x
      simp only [cond_eq_ite] at h
      split at h
      · rename_i hx
        cases h
        refine Or.inl ⟨_, _, rfl, rfl, rfl, ?_, rfl⟩
        simp only [Bool.or_eq_true, beq_iff_eq] at hx
        rcases hx with rfl | rfl <;> decide
      · cases h
    · cases h
  · split at h
    · cases h; exact Or.inr (Or.inl ⟨_, rfl, rfl, rfl, rfl⟩)
    · cases h
  · split at h
    · cases h; exact Or.inr (Or.inr ⟨rfl, rfl, rfl, rfl⟩)
    · cases h
set_option maxHeartbeats 1000000 in
/-- a method's contract out of its run -/
theorem xmet_of {l : Launch} {ρ : Nat → Nat} {b0 : Nat} {S : Nat × (Nat → Int32)} {A : Nat → Prop} {dA : Nat → ClassId} {D : va_G} {d j : Nat} {as : List Value} {M : xM} {r : xR}
    (hQ : xokQ j) (hkd : (xmd j).2.2.2.2.1 < 4) (hlen : (xlay as).length ≤ (xmd j).2.2.1) (hmono : M.2.2.1 ≤ r.2.2.2.1 ∧ M.2.2.2 ≤ r.2.2.2.2) (hcap : r.2.2.2.1 ≤ 999999) (hrun : xSF l ρ b0 S A dA D d j (0, xent (xmd j).2.2.1 as, []) M r) : xMet l ρ b0 S A dA D d j as M r := by
  obtain ⟨hm1, hm2, hm3, hm4⟩ := xokM_use hQ.1
  have body : ∀ p e s m args below meth c s₁, BodyLoose p l (xmd j).1 (headSpec (xcw j :: xW) (xRm d (r.2.2.2.1 - M.2.2.1) (r.2.2.2.2 - M.2.2.2))) (xmd j).2.1 (xmd j).2.2.1 (xmd j).2.2.2.1 e s m args below meth c s₁ → c.maxLocals = (xmd j).2.2.1 → c.exceptionTable.toList = tableOf (xmd j).2.2.2.2.2.2 → xPc ρ b0 S A dA D as M args s →
      W p l e (headSpec (xcw j :: xW) (xRm d (r.2.2.2.1 - M.2.2.1) (r.2.2.2.2 - M.2.2.2))).room s m args below meth c s.heap [] 0 0 (vx_MQ below (xQc ρ A dA D r) (xXC ρ A dA D r) args s (r.2.2.2.1 - M.2.2.1) (r.2.2.2.2 - M.2.2.2) A) (entryFrame m args (xmd j).2.2.1) := by
    intro p e s m args below meth c s₁ B hml htab hv
    obtain ⟨rfl, hZ, hK, hD⟩ := hv
    have hts := atoms_spec (ws := xcw j :: xW) B.pre
    have hl := xLo.entry ρ as hlen
    rw [lg_entry_eq]
    generalize (lg_sl (as.map (xv ρ)) ++ List.replicate ((xmd j).2.2.1 - (lg_sl (as.map (xv ρ))).length) Slot.unset).toArray = ls at hl ⊢
    refine hrun p e s m _ below meth c _ s.heap [] 0 0 _ ls M.2.2.1 M.2.2.2 B.exec B.bytes hml (findClass_of_methodNamed B.named) (fun w hw => hts w (List.mem_cons_of_mem _ hw)) (fun h => by rw [← h]; exact (name_of_methodNamed B.named B.method).1) B.notSynchronized htab hZ hK (Nat.le_refl _) (Nat.le_refl _) va_S.rf hD hl (Nat.zero_add _) (Nat.zero_add _) (by show _ ≤ _ - _ + _; omega) (by show _ ≤ _ - _ + _; omega) hcap ?_ ?_
    · intro v ins H' locs' pc' ls' st' c' s' hr hd hret hD' hS' hc hs
      have e1 : c' = r.2.2.2.1 - M.2.2.1 := by omega
      have e2 : s' = r.2.2.2.2 - M.2.2.2 := by omega
      subst e1; subst e2
      have hx := B.exec
      have hb := B.bytes
      have hrt := B.returns
      have hlocks := B.notSynchronized
      rcases xret_cases hret with ⟨x, ty, rfl, rfl, h3, h4, rfl⟩ | ⟨x, rfl, rfl, h3, rfl⟩ | ⟨rfl, rfl, h3, rfl⟩
      · exact vx_ret (W.zret (v := x) (ty := ty) hx hb (hrt.trans h3) h4 (fun t ht hW => ⟨⟨_, hr, rfl, by rw [ht]; exact hD'⟩, hS'.F ht⟩) hS'.2.2 hd hlocks)
      · exact vx_ret (W.lret (v := x) hx hb (hrt.trans h3) (fun t ht hW => ⟨⟨_, hr, rfl, by rw [ht]; exact hD'⟩, hS'.F ht⟩) hS'.2.2 hd hlocks)
      · exact vx_ret (W.vret hx hb (hrt.trans h3) (fun t ht hW => ⟨⟨_, hr, rfl, by rw [ht]; exact hD'⟩, hS'.F ht⟩) hS'.2.2 hd hlocks)
    · intro k hk hk6
      exact ⟨_, _, _, _, rfl, by omega, by omega, fun t hal hDt hF => ⟨⟨k, hk6, hk, rfl, hDt⟩, hF⟩⟩
  unfold xMet
  by_cases hh : (xmd j).2.2.2.2.2.2 = []
  · have hcw : xcw j = .code (xmd j).1 (xmd j).2.1 (xmd j).2.2.1 (xmd j).2.2.2.1 := by unfold xcw; rw [hh]
    refine vx_ofW (cc := (xmd j).2.1) (maxL := (xmd j).2.2.1) (ret := (xmd j).2.2.2.1) hm2 (by rw [hcw]) ?_
    intro p e s m args below meth c s₁ B hml ht hv
    refine body p e s m args below meth c s₁ B hml ?_ hv
    rw [hh]
    cases hc : c.exceptionTable.toList with
    | nil => rfl
    | cons a b => exact (ht a (by rw [hc]; exact List.mem_cons_self)).elim
  · have hcw : xcw j = .codeWith (xmd j).1 (xmd j).2.1 (xmd j).2.2.1 (xmd j).2.2.2.1 (xmd j).2.2.2.2.2.2 := by
      unfold xcw
      split
      · rename_i h; exact absurd h hh
      · rfl
    refine vx_ofWH (cc := (xmd j).2.1) (maxL := (xmd j).2.2.1) (ret := (xmd j).2.2.2.1) (hh := (xmd j).2.2.2.2.2.2) hm2 (by rw [hcw]) ?_
    intro p e s m args below meth c s₁ B hml hv
    refine body p e s m args below meth c s₁ B hml ?_ hv
    have hw := atoms_spec (ws := xcw j :: xW) B.pre (xcw j) List.mem_cons_self
    rw [hcw] at hw
    exact vx_table (x := (xmd j).1) B hw

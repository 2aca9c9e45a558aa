/-! The small machine's runs are the machine's. -/
theorem xone_mono {S : Nat × (Nat → Int32)} {x : xI} {F F' : xF} {M M' : xM} (h : xone S x F M = some (F', M')) : M.2.2.1 ≤ M'.2.2.1 ∧ M.2.2.2 ≤ M'.2.2.2 := by
  obtain ⟨pc, L, st⟩ := F
  obtain ⟨ins, len, a, b, w, v⟩ := x
  cases ins <;> simp only [xone, cond_eq_ite] at h <;> (repeat' split at h) <;> first | (cases h; done) | (cases h; exact ⟨Nat.le_refl _, Nat.le_refl _⟩) | (cases h; exact ⟨Nat.le_succ _, Nat.le_add_right _ _⟩)
def xThr (e : Nat) : List Cond := vx_atS RX11 (xXic.getD e 0) (xExc.getD e "") ["java/lang/RuntimeException", "java/lang/Exception"]
theorem xThr_good : ∀ e, e < 6 → ∀ w ∈ (xThr e).filter goodWord, w ∈ xW := by decide +kernel
theorem xThr_bad : ∀ e, e < 6 → ∀ w ∈ (xThr e).filter (fun w => !goodWord w), w = .castable (xExc.getD e "") (xExc.getD e "") := by decide +kernel
theorem xThr_ot : ∀ e, e < 6 → ∀ w ∈ Cond.initialized (xExc.getD e "") :: xThr e, vx_ot w = true := by decide +kernel
theorem xThr_ini : ∀ e, e < 6 → Cond.initialized (xExc.getD e "") ∈ xW := by decide +kernel
theorem xThr_fit : ∀ e, e < 6 → Bundle.fit (xExc.getD e "") = true := by decide +kernel

/-! The small machine's runs are the machine's. -/
theorem xone_mono {S : Nat × (Nat → Int32)} {x : xI} {F F' : xF} {M M' : xM} (h : xone S x F M = some (F', M')) : M.2.2.1 ≤ M'.2.2.1 ∧ M.2.2.2 ≤ M'.2.2.2 := by
  obtain ⟨pc, L, st⟩ := F
  obtain ⟨ins, len, a, b, w, v⟩ := x
  cases ins <;> simp only [xone, cond_eq_ite] at h <;> (repeat' split at h) <;> first | (cases h; done) | (cases h; exact ⟨Nat.le_refl _, Nat.le_refl _⟩) | (cases h; exact ⟨Nat.le_succ _, Nat.le_add_right _ _⟩)
/-- room of a method that may call so deep -/
def xRm (d mc ms : Nat) : Room := { frames := 8 + d, cells := mc, slots := ms, locals := 100 + 64 * d }
def xcw (j : Nat) : Cond := match (xmd j).2.2.2.2.2.2 with
  | [] => .code (xmd j).1 (xmd j).2.1 (xmd j).2.2.1 (xmd j).2.2.2.1
  | hh => .codeWith (xmd j).1 (xmd j).2.1 (xmd j).2.2.1 (xmd j).2.2.2.1 hh
section XSIM
variable (l : Launch) (ρ : Nat → Nat) (b0 : Nat) (S : Nat × (Nat → Int32)) (A : Nat → Prop) (dA : Nat → ClassId) (D : va_G)
def xPc (args : List Value) (M : xM) : Array Value → State → Prop := va_Pc (args.map (xv ρ)) (fun U => xZ ρ b0 S A U U.heap ∧ va_K D xCl (xtys dA) U ∧ xDy ρ dA D A M U.heap)
def xQc (r : xR) : Array Value → State → Outcome → State → Prop := fun _ st o t => (∃ v, r.1 = .inr v ∧ o = .returned (v.map (xv ρ)) ∧ xDy ρ dA D A r.2 t.heap) ∧ va_F A st t
def xXC (r : xR) : String → State → State → Prop := fun E st t => (∃ e, e < 6 ∧ r.1 = .inl e ∧ E = xExc.getD e "" ∧ xDy ρ dA D A r.2 t.heap) ∧ va_F A st t
def xMet (d j : Nat) (args : List Value) (M : xM) (r : xR) : Prop :=
  vx_Met l (xmd j).1 (xcw j :: xW) (xRm d (r.2.2.2.1 - M.2.2.1) (r.2.2.2.2 - M.2.2.2)) (xPc ρ b0 S A dA D args M) (xQc ρ A dA D r) (xXC ρ A dA D r) (r.2.2.2.1 - M.2.2.1) (r.2.2.2.2 - M.2.2.2) A
theorem xPc_blind (args : List Value) (M : xM) : FrameBlind (xPc ρ b0 S A dA D args M) := by
  intro a U g mk h
  obtain ⟨h1, h2, h3, h4⟩ := h
  refine ⟨h1, h2.move (s := U) (U := U.calling g mk a) (State.WarmedH.refl U) (Nat.le_refl _) (fun _ _ _ => rfl), va_K.moved (u := U) (U := U.calling g mk a) (Vm.Alike.refl U.vm) h3, h4⟩
end XSIM
section XCALL
variable {p : Program} {l : Launch} {e : Env} {R : Room} {s : State} {m : MethodId} {args : Array Value} {below : List Frame} {meth : Method} {c : Code} {H : Heap} {locs : List Loc} {cells slots : Nat} {Q : State → Prop}
variable {cc : ByteArray} {pc : Nat} {ls : Array Slot} {rest st0 : List Value} {D : va_G} {A : Nat → Prop} {ρ : Nat → Nat} {dA : Nat → ClassId} {M : xM}
/-- what goes on behind a call -/
theorem x_behind {a : Array Value} {r : xR} {mc ms : Nat} (hr : vx_Run p l e R s m args below meth c H locs cells slots mc ms (F0 m pc ls st0) rest (xQc ρ A dA D r a) (xXC ρ A dA D r) A) (hS : va_S A s.heap H locs)
    (kk : ∀ (v : Option Value) (H1 : Heap) (locs1 : List Loc), r.1 = .inr v → xDy ρ dA D A r.2 H1 → va_S A s.heap H1 locs1 → W p l e R s m args below meth c H1 locs1 (cells + mc) (slots + ms) Q (F0 m (pc + 3) ls ((v.map (xv ρ)).toList ++ rest)))
    (kx : ∀ (k : Nat) (q : Addr) (ce : Cell) (H1 : Heap) (locs1 : List Loc), k < 6 → r.1 = .inl k → xDy ρ dA D A r.2 H1 → va_S A s.heap H1 locs1 → H1[q]? = some ce → ce.vm = .none → s.vm.findClass (xExc.getD k "") = some ce.cls → vx_W p l e R s m args below meth c H1 locs1 (cells + mc) (slots + ms) Q (F0 m pc ls rest) q) :
    W p l e R s m args below meth c H locs cells slots Q (F0 m pc ls st0) := by
  intro T hT X
  rcases hr T hT X with ⟨v, st₀, t, T', L, h0, X', hL, e1, e2, ⟨⟨v', hv', ho, hD⟩, hF⟩, st⟩ | ⟨q, st₀, t, T', L, E, ce, h0, X', hL, e1, e2, ⟨⟨k, hk6, hk, hE, hD⟩, hF⟩, hce, hcv, hcl, st⟩
  · cases ho
    obtain ⟨k1, k2, k3⟩ := vx_keep h0 e1 hS (fun _ _ z => z) (fun _ z => z) hL hF
    obtain ⟨t2, a1, b1⟩ := kk v' T'.heap (locs ++ L) hv' (by rw [e1]; exact hD) k3 T' rfl X'
    exact ⟨t2, st t2 a1, b1⟩
  · obtain ⟨k1, k2, k3⟩ := vx_keep h0 e1 hS (fun _ _ z => z) (fun _ z => z) hL hF
    obtain ⟨t2, a1, b1⟩ := kx k q ce T'.heap (locs ++ L) hk6 hk (by rw [e1]; exact hD) k3 (by rw [e1]; exact hce) hcv (by rw [← hE]; exact hcl) T' rfl X'
    exact ⟨t2, st.trans a1, b1⟩
end XCALL

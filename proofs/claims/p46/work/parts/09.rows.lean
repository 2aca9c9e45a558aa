/-! Rows of the steps that write or make cells, over the numbered worlds (the heap's size is kept, so that the next cell's address is known). -/
section XROWS
variable {p : Program} {l : Launch} {e : Env} {R : Room} {s : State} {m : MethodId} {args : Array Value} {below : List Frame} {meth : Method} {c : Code} {H : Heap} {locs : List Loc} {cells slots : Nat} {Q : State → Prop}
variable {cc : ByteArray} {pc : Nat} {ls : Array Slot} {rest : List Value} {D : va_G} {A : Nat → Prop} {ρ : Nat → Nat} {dA : Nat → ClassId} {M : xM}
theorem x_at {h : Nat} {E : xE} (hD : xDy ρ dA D A M H) (he : M.1[h]? = some E) (hl : xlive E = true := by rfl) : va_at D xCl (ρ h, xc ρ dA E) H := (hD.1 h E he hl).1
theorem x_one {h : Nat} {E : xE} (hD : xDy ρ dA D A M H) (he : M.1[h]? = some E) (hl : xlive E = true := by rfl) : va_P D xCl [(ρ h, xc ρ dA E)] H := fun k q hk => by
  match k, hk with
  | 0, hk => cases hk; exact x_at hD he hl
  | k + 1, hk => cases hk
theorem ρ_add (hρ : ∀ k, k < 999999 → ρ (k + 1) = ρ k + 1) : ∀ (n k : Nat), k + n ≤ 999999 → ρ (k + n) = ρ k + n := by
  intro n
  induction n with
  | zero => intro k _; rfl
  | succ n ih => intro k h; rw [← Nat.add_assoc, hρ _ (by omega), ih k (by omega)]; rfl
theorem ρ_ne (hρ : ∀ k, k < 999999 → ρ (k + 1) = ρ k + 1) {j k : Nat} (hj : j ≤ 999999) (hk : k ≤ 999999) (h : j ≠ k) : ρ j ≠ ρ k := by
  rcases Nat.lt_or_ge j k with q | q
  · have := ρ_add hρ (k - j) j (by omega)
    rw [show j + (k - j) = k by omega] at this
    omega
  · have := ρ_add hρ (j - k) k (by omega)
    rw [show k + (j - k) = j by omega] at this
    omega
theorem xDy.write {h : Nat} {E0 E : xE} {H1 : Heap} (hρ : ∀ k, k < 999999 → ρ (k + 1) = ρ k + 1) (hcap : M.2.2.1 ≤ 999999) (hD : xDy ρ dA D A M H) (he : M.1[h]? = some E0) (hl : xlive E0 = true) (hn : va_at D xCl (ρ h, xc ρ dA E) H1) (z : H1.size = H.size) (oq : ∀ q : Nat, q ≠ ρ h → H1[q]? = H[q]?) : xDy ρ dA D A (M.1.set h E, M.2) H1 := by
  have hh := (List.getElem?_eq_some_iff.mp he).1
  refine ⟨fun k c hk hc => ?_, ?_, ?_⟩
  · dsimp only at hk
    rw [List.getElem?_set] at hk
    by_cases e : h = k
    · subst e
      rw [if_pos rfl, if_pos hh] at hk
      cases hk
      exact ⟨hn, (hD.1 h E0 he hl).2⟩
    · rw [if_neg e] at hk
      obtain ⟨a1, a2⟩ := hD.1 k c hk hc
      have hk2 := (List.getElem?_eq_some_iff.mp hk).1
      exact ⟨a1.kept (oq _ (ρ_ne hρ (by have := hD.2.1; omega) (by have := hD.2.1; omega) (fun q => e q.symm))), a2⟩
  · show (M.1.set h E).length ≤ _
    rw [List.length_set]
    exact hD.2.1
  · rw [z]
    exact hD.2.2
theorem xDy.addr {h : Nat} {E : xE} (hD : xDy ρ dA D A M H) (he : M.1[h]? = some E) (hl : xlive E = true := by rfl) : A (ρ h) := (hD.1 h E he hl).2
theorem x_put (hexec : p.tables.exec = Jvm.exec) (hb : c.code = cc) (hts : ∀ w ∈ xW, w.before args s = true) {own : String} (hown : s.vm.findClass own = some m.cls) (hK : va_K D xCl (xtys dA) s) (hρ : ∀ k, k < 999999 → ρ (k + 1) = ρ k + 1) (hcap : M.2.2.1 ≤ 999999) (hD : xDy ρ dA D A M H) (hS : va_S A s.heap H locs)
    {ci h k index : Nat} {C : String} {T : u_T} {N : Nat} (hc : xCl[ci]? = some (C, T, N)) (hk : k < N) {fs : List Value} (he : M.1[h]? = some (.inr (ci, fs))) (hl : k < fs.length) {v : Value} (hv : xfit (xty ci k) v = true)
    (hlink : (Cond.fieldLink own index (T k).1 (T k).2.1 (T k).2.2.1).before args s = true) (hfin : (T k).2.2.2 = false ∨ (meth.name = "<init>" ∧ (T k).1 = own)) (hdg : decode cc pc = .ok (.putfield index, 3))
    (kk : ∀ (H1 : Heap) (locs1 : List Loc), xDy ρ dA D A (M.1.set h (.inr (ci, fs.set k v)), M.2) H1 → va_S A s.heap H1 locs1 → W p l e R s m args below meth c H1 locs1 cells slots Q (F0 m (pc + 3) ls rest)) : W p l e R s m args below meth c H locs cells slots Q (F0 m pc ls (xv ρ v :: .ref (ρ h) :: rest)) := by
  obtain ⟨hin, hty, hnm, -, -, -⟩ := xCl_facts ci _ hc
  have hap := va_apart (own := own) hts hin (xty ci) hty hnm hK hc
  obtain ⟨r, h1, cell, q1, q2, q3, q4⟩ := x_at hD he
  cases Option.some.inj (h1.symm.trans hc)
  obtain ⟨hSl, hfc, kC, hkC, hkind⟩ := hK.1 ci _ hc
  obtain ⟨cf, kf, fi, f, hi, hsl⟩ := hSl k hk
  obtain ⟨hn, hfit⟩ := xfit_use ρ hv
  have hlay := hts _ (hin _ (u_in_lay hk))
  have hst := (u_facts hfc hkC (u_lays hts hin hk) hi).1
  have fin : ∀ (H' : Heap), H'[ρ h]? = some (cell.setSlot (D.2 ci k) (xv ρ v)) → H'.size = H.size → (∀ q, q ≠ ρ h → H'[q]? = H[q]?) → W p l e R s m args below meth c H' (locs ++ [⟨ρ h, D.2 ci k⟩]) cells slots Q (F0 m (pc + 3) ls rest) := by
    intro H' e1 e2 e3
    refine kk H' _ (hD.write hρ hcap he rfl ?_ e2 e3) (hS.put e2 e3 (hD.addr he))
    refine ⟨_, hc, t_OB.to (V := updV (vp_V (fs.map (xv ρ))) k (xv ρ v)) ⟨_, e1, q2, q3, t_set q4 hap hk (xv ρ v)⟩ (fun j _ => ?_)⟩
    rw [vp_updV_set (by rw [List.length_map]; exact hl), List.map_set]
  rcases hfin with hf | ⟨hf1, hf2⟩
  · have hlay2 : (Cond.lays C (T k).1 (T k).2.1 (T k).2.2.1).before args s = true := by
      unfold u_lay at hlay
      rwa [if_neg (by dsimp only; rw [hf]; decide)] at hlay
    have h6 := u_store hfc hkC hkind hlay2 hi (hty k hk) hn hfit
    refine W.putK hexec hb (f := f) ⟨hown, hlink, ⟨_, _, _, hi⟩, hst⟩ (by rw [q2]; exact h6) q1 q3 (by rw [hsl]; exact k2_hasslot (q4 k hk)) rfl rfl hdg fun H' e1 e2 e3 => ?_
    rw [hsl] at e1 ⊢
    exact fin H' e1 e2 e3
  · cases hfb : (T k).2.2.2 with
    | false =>
      have hlay2 : (Cond.lays C (T k).1 (T k).2.1 (T k).2.2.1).before args s = true := by
        unfold u_lay at hlay
        rwa [if_neg (by dsimp only; rw [hfb]; decide)] at hlay
      have h6 := u_store hfc hkC hkind hlay2 hi (hty k hk) hn hfit
      refine W.putK hexec hb (f := f) ⟨hown, hlink, ⟨_, _, _, hi⟩, hst⟩ (by rw [q2]; exact h6) q1 q3 (by rw [hsl]; exact k2_hasslot (q4 k hk)) rfl rfl hdg fun H' e1 e2 e3 => ?_
      rw [hsl] at e1 ⊢
      exact fin H' e1 e2 e3
    | true =>
      have hlay2 : (Cond.laysFinal C (T k).1 (T k).2.1 (T k).2.2.1).before args s = true := by
        unfold u_lay at hlay
        rwa [if_pos (by dsimp only; exact hfb)] at hlay
      have hcf : m.cls = cf := by
        obtain ⟨_, _, c', _, _, _, -, -, hf', -, -, -, hown2, -⟩ := Cond.laysFinal_spec hlay2
        have e1 : c' = cf := by have := hi.symm.trans hf'; simp at this; exact this.1.symm
        rw [hf2] at hown2
        rw [← e1]; exact Option.some.inj (hown.symm.trans hown2)
      have h6 := u_fits hfc hkC hkind (Or.inr hlay2) hi (hty k hk) hn hfit
      refine W.putFinK hexec hb hown hlink hi hst hcf hf1 (by rw [q2]; exact h6) q1 q3 (by rw [hsl]; exact k2_hasslot (q4 k hk)) rfl rfl hdg fun H' e1 e2 e3 => ?_
      rw [hsl] at e1 ⊢
      exact fin H' e1 e2 e3
theorem xin_use {i : Int32} {n : Nat} (h : xin i n = true) : vp_in i n := by
  unfold xin at h
  simp only [Bool.not_eq_true', Bool.or_eq_false_iff, decide_eq_false_iff_not] at h
  intro q
  rcases q with q | q
  · exact h.1 q
  · have := h.2
    rw [Nat.ble_eq_true_of_le q] at this
    cases this
theorem x_iast (hexec : p.tables.exec = Jvm.exec) (hb : c.code = cc) (hK : va_K D xCl (xtys dA) s) (hρ : ∀ k, k < 999999 → ρ (k + 1) = ρ k + 1) (hcap : M.2.2.1 ≤ 999999) (hD : xDy ρ dA D A M H) (hS : va_S A s.heap H locs) {h n : Nat} {f : Nat → Int32} (he : M.1[h]? = some (.inl (0, n, .inl f))) {i y : Int32} (hin : vp_in i n) (hdg : decode cc pc = .ok (.iastore, 1))
    (kk : ∀ (H1 : Heap) (locs1 : List Loc), xDy ρ dA D A (M.1.set h (.inl (0, n, .inl (upd f i.toNatClampNeg y))), M.2) H1 → va_S A s.heap H1 locs1 → W p l e R s m args below meth c H1 locs1 cells slots Q (F0 m (pc + 1) ls rest)) : W p l e R s m args below meth c H locs cells slots Q (F0 m pc ls (.int y :: .int i :: .ref (ρ h) :: rest)) := by
  refine W.iast hexec hb (x_at hD he) ((hK.2 0 _ (xtys_get dA (by decide))).1 n (fun j => .int (f j))) (fun q => by cases q) (by show ¬ (i < 0 ∨ (arrV _ _ _).slots.size ≤ _); rw [arrV_size]; exact hin) rfl rfl hdg fun H1 e z oq => ?_
  refine kk H1 _ (hD.write hρ hcap he rfl ?_ z oq) (hS.put z oq (hD.addr he))
  show H1[ρ h]? = some (vp_cell _ _)
  rw [e]
  show some ((vp_cell _ (n, .inl f)).setSlot _ _) = some (vp_cell _ (n, .inl _))
  rw [vp_cell_i, vp_cell_i, arrV_store]
  congr 2
  funext q
  by_cases hq : q = i.toNatClampNeg
  · subst hq
    simp [updV, upd]
  · simp [updV, upd, hq]
theorem x_zast (hexec : p.tables.exec = Jvm.exec) (hb : c.code = cc) (hK : va_K D xCl (xtys dA) s) (hρ : ∀ k, k < 999999 → ρ (k + 1) = ρ k + 1) (hcap : M.2.2.1 ≤ 999999) (hD : xDy ρ dA D A M H) (hS : va_S A s.heap H locs) {h n : Nat} {f : Nat → Int32} (he : M.1[h]? = some (.inl (2, n, .inl f))) {i y : Int32} (hin : vp_in i n) (hdg : decode cc pc = .ok (.bastore, 1))
    (kk : ∀ (H1 : Heap) (locs1 : List Loc), xDy ρ dA D A (M.1.set h (.inl (2, n, .inl (upd f i.toNatClampNeg (vp_nar .boolean y)))), M.2) H1 → va_S A s.heap H1 locs1 → W p l e R s m args below meth c H1 locs1 cells slots Q (F0 m (pc + 1) ls rest)) : W p l e R s m args below meth c H locs cells slots Q (F0 m pc ls (.int y :: .int i :: .ref (ρ h) :: rest)) := by
  refine W.zast hexec hb (x_at hD he) ((hK.2 2 _ (xtys_get dA (by decide))).1 n (fun j => .int (f j))) (fun q => by cases q) (by show ¬ (i < 0 ∨ (arrV _ _ _).slots.size ≤ _); rw [arrV_size]; exact hin) rfl rfl hdg fun H1 e z oq => ?_
  refine kk H1 _ (hD.write hρ hcap he rfl ?_ z oq) (hS.put z oq (hD.addr he))
  show H1[ρ h]? = some (vp_cell _ _)
  rw [e]
  show some ((vp_cell _ (n, .inl f)).setSlot _ _) = some (vp_cell _ (n, .inl _))
  rw [vp_cell_i, vp_cell_i, arrV_store]
  congr 2
  funext q
  by_cases hq : q = i.toNatClampNeg
  · subst hq
    simp [updV, upd, vp_nar]
    try rfl
  · simp [updV, upd, hq]
theorem x_last (hexec : p.tables.exec = Jvm.exec) (hb : c.code = cc) (hK : va_K D xCl (xtys dA) s) (hρ : ∀ k, k < 999999 → ρ (k + 1) = ρ k + 1) (hcap : M.2.2.1 ≤ 999999) (hD : xDy ρ dA D A M H) (hS : va_S A s.heap H locs) {h n : Nat} {f : Nat → Int64} (he : M.1[h]? = some (.inl (1, n, .inr (.inl f)))) {i : Int32} {y : Int64} (hin : vp_in i n) (hdg : decode cc pc = .ok (.lastore, 1))
    (kk : ∀ (H1 : Heap) (locs1 : List Loc), xDy ρ dA D A (M.1.set h (.inl (1, n, .inr (.inl (vp_updL f i.toNatClampNeg y)))), M.2) H1 → va_S A s.heap H1 locs1 → W p l e R s m args below meth c H1 locs1 cells slots Q (F0 m (pc + 1) ls rest)) : W p l e R s m args below meth c H locs cells slots Q (F0 m pc ls (.long y :: .int i :: .ref (ρ h) :: rest)) := by
  refine W.last hexec hb (x_at hD he) ((hK.2 1 _ (xtys_get dA (by decide))).1 n (fun j => .long (f j))) (fun q => by cases q) (by show ¬ (i < 0 ∨ (arrV _ _ _).slots.size ≤ _); rw [arrV_size]; exact hin) rfl rfl hdg fun H1 e z oq => ?_
  refine kk H1 _ (hD.write hρ hcap he rfl ?_ z oq) (hS.put z oq (hD.addr he))
  show H1[ρ h]? = some (vp_cell _ _)
  rw [e]
  show some ((vp_cell _ (n, .inr (.inl f))).setSlot _ _) = some (vp_cell _ (n, .inr (.inl _)))
  rw [vp_cell_l, vp_cell_l, arrV_store]
  congr 2
  funext q
  by_cases hq : q = i.toNatClampNeg
  · subst hq
    simp [updV, vp_updL]
  · simp [updV, vp_updL, hq]
theorem xDy.grow {E : xE} {H1 : Heap} {b1 : Bool} {s1 : Nat} (hρ : ∀ k, k < 999999 → ρ (k + 1) = ρ k + 1) (hcap : M.2.2.1 < 999999) (hD : xDy ρ dA D A M H) (hA : A H.size) (hn : va_at D xCl (H.size, xc ρ dA E) H1) (z : H1.size = H.size + 1) (oq : ∀ q : Nat, q < H.size → H1[q]? = H[q]?) : xDy ρ dA D A (xpad M.1 M.2.2.1 E, b1, M.2.2.1 + 1, s1) H1 := by
  obtain ⟨d1, d2, d3⟩ := hD
  refine ⟨fun k c hk hc => ?_, ?_, ?_⟩
  · rcases xpad_of d2 hk hc with ⟨h1, h2⟩ | ⟨rfl, rfl⟩
    · obtain ⟨a1, a2⟩ := d1 k c h1 hc
      exact ⟨a1.kept (oq _ a1.lt), a2⟩
    · rw [← d3]
      exact ⟨hn, hA⟩
  · show (xpad _ _ _).length ≤ _
    rw [xpad_len d2]
    exact Nat.le_refl _
  · show _ = ρ (M.2.2.1 + 1)
    rw [z, d3]
    exact (hρ _ hcap).symm
theorem xDy.gap {H1 : Heap} {b1 : Bool} {s1 : Nat} (hρ : ∀ k, k < 999999 → ρ (k + 1) = ρ k + 1) (hcap : M.2.2.1 < 999999) (hD : xDy ρ dA D A M H) (z : H1.size = H.size + 1) (oq : ∀ q : Nat, q < H.size → H1[q]? = H[q]?) : xDy ρ dA D A (M.1, b1, M.2.2.1 + 1, s1) H1 := by
  obtain ⟨d1, d2, d3⟩ := hD
  refine ⟨fun k c hk hc => ?_, ?_, ?_⟩
  · obtain ⟨a1, a2⟩ := d1 k c hk hc
    exact ⟨a1.kept (oq _ a1.lt), a2⟩
  · exact Nat.le_succ_of_le d2
  · show _ = ρ (M.2.2.1 + 1)
    rw [z, d3]
    exact (hρ _ hcap).symm
theorem xdef_get (ci k : Nat) (hk : k < xnf ci) : vp_V (xdef ci) k = defaultValue (xty ci k) := by
  simp [vp_V, xdef, hk]
theorem xv_default (ρ : Nat → Nat) (t : FieldType) : xv ρ (defaultValue t) = defaultValue t := by cases t <;> rfl
theorem x_new (hexec : p.tables.exec = Jvm.exec) (hb : c.code = cc) (hts : ∀ w ∈ xW, w.before args s = true) {own : String} (hown : s.vm.findClass own = some m.cls) (hK : va_K D xCl (xtys dA) s) (hD : xDy ρ dA D A M H) (hS : va_S A s.heap H locs) (hA : ∀ q, s.heap.size ≤ q → A q)
    (hρ : ∀ k, k < 999999 → ρ (k + 1) = ρ k + 1) (hcap : M.2.2.1 < 999999) {ci index : Nat} {C : String} {T : u_T} {N : Nat} (hc : xCl[ci]? = some (C, T, N)) (hcl : (Cond.classLink own index C).before args s = true) (hcells : cells + 1 ≤ R.cells) (hslots : slots + N ≤ R.slots) (hdg : decode cc pc = .ok (.new index, 3))
    (kk : ∀ (H1 : Heap) (s1 : Nat), xDy ρ dA D A (xpad M.1 M.2.2.1 (.inr (ci, xdef ci)), M.2.1, M.2.2.1 + 1, s1) H1 → va_S A s.heap H1 locs → W p l e R s m args below meth c H1 locs (cells + 1) (slots + N) Q (F0 m (pc + 3) ls (.ref (ρ M.2.2.1) :: rest))) : W p l e R s m args below meth c H locs cells slots Q (F0 m pc ls rest) := by
  obtain ⟨hin, hty, hnm, hins, hini, hnf⟩ := xCl_facts ci _ hc
  have hKn := hK.1 ci _ hc
  refine W.newcK hexec hb hown hcl (hts _ hins) (hts _ hini) rfl hdg hcells hslots hKn.2.1 rfl fun H1 kC hkC e1 z1 o1 => ?_
  have hz := hD.2.2
  have hAz : A H.size := hA _ hS.1
  rw [hz] at e1
  have hn : va_at D xCl (H.size, xc ρ dA (.inr (ci, xdef ci))) H1 := by
    rw [hz]
    refine ⟨_, hc, (u_born (xty ci) hts hin hKn hkC e1 hty).to (fun j hj => ?_)⟩
    show defaultValue _ = vp_V ((xdef ci).map (xv ρ)) j
    have hj2 : j < xnf ci := by rw [hnf]; exact hj
    simp [vp_V, xdef, hj2, xv_default]
  have kk2 := kk H1 (M.2.2.2 + N) (xDy.grow hρ hcap hD hAz hn z1 o1) ⟨Nat.le_trans hS.1 (by omega), fun x h1 h2 => (o1 x (Nat.lt_of_lt_of_le h1 hS.1)).trans (hS.2.1 x h1 h2), hS.2.2⟩
  rw [← hz] at kk2
  exact kk2
theorem x_newa (hexec : p.tables.exec = Jvm.exec) (hb : c.code = cc) (hts : ∀ w ∈ xW, w.before args s = true) (hK : va_K D xCl (xtys dA) s) (hD : xDy ρ dA D A M H) (hS : va_S A s.heap H locs) (hA : ∀ q, s.heap.size ≤ q → A q)
    (hρ : ∀ k, k < 999999 → ρ (k + 1) = ρ k + 1) (hcap : M.2.2.1 < 999999) {t : Nat} (ht : t < 4) {atype : ArrayType} (hty : newarray.typeOf atype = xtyA t) (hw : Cond.arrayClass (newarray.typeOf atype) ∈ xW) {n : Int32} (hn : ¬ n < 0) (hN : n.toNatClampNeg ≤ 100000) (hcells : cells + 1 ≤ R.cells) (hslots : slots + n.toNatClampNeg ≤ R.slots) (hdg : decode cc pc = .ok (.newarray atype, 2))
    (kk : ∀ (H1 : Heap) (s1 : Nat), xDy ρ dA D A (xpad M.1 M.2.2.1 (.inl (t, n.toNatClampNeg, bif Nat.beq t 1 then .inr (.inl fun _ => 0) else .inl fun _ => 0)), M.2.1, M.2.2.1 + 1, s1) H1 → va_S A s.heap H1 locs → W p l e R s m args below meth c H1 locs (cells + 1) (slots + n.toNatClampNeg) Q (F0 m (pc + 2) ls (.ref (ρ M.2.2.1) :: rest))) : W p l e R s m args below meth c H locs cells slots Q (F0 m pc ls (.int n :: rest)) := by
  have hcb : componentBytes (newarray.typeOf atype) ≤ 8 := by cases atype <;> decide
  refine va_newaK hexec hb (hts _ hw) rfl hdg rfl hn rfl (by
    have := Nat.mul_le_mul hN hcb
    omega) hcells hslots rfl fun H1 cA e1 z1 o1 hAr hNm => ?_
  have hcA : cA = dA t := by
    have h2 := (hK.2 t _ (xtys_get dA ht)).2
    rw [hty] at hNm
    match t, ht, h2, hNm with
    | 0, _, h2, hNm => exact Option.some.inj (hNm.symm.trans h2)
    | 1, _, h2, hNm => exact Option.some.inj (hNm.symm.trans h2)
    | 2, _, h2, hNm => exact Option.some.inj (hNm.symm.trans h2)
    | 3, _, h2, hNm => exact Option.some.inj (hNm.symm.trans h2)
  subst hcA
  have hz := hD.2.2
  have hAz : A H.size := hA _ hS.1
  have hn2 : va_at D xCl (H.size, xc ρ dA (.inl (t, n.toNatClampNeg, bif Nat.beq t 1 then .inr (.inl fun _ => 0) else .inl fun _ => 0))) H1 := by
    show H1[H.size]? = some (vp_cell _ _)
    rw [e1, hty]
    match t, ht with
    | 0, _ => rfl
    | 1, _ => rfl
    | 2, _ => rfl
    | 3, _ => rfl
  have kk2 := kk H1 (M.2.2.2 + n.toNatClampNeg) (xDy.grow hρ hcap hD hAz hn2 z1 o1) ⟨Nat.le_trans hS.1 (by omega), fun x h1 h2 => (o1 x (Nat.lt_of_lt_of_le h1 hS.1)).trans (hS.2.1 x h1 h2), hS.2.2⟩
  rw [← hz] at kk2
  exact kk2
theorem x_alen (hexec : p.tables.exec = Jvm.exec) (hb : c.code = cc) (hK : va_K D xCl (xtys dA) s) (hD : xDy ρ dA D A M H) {h t : Nat} {x : vp_A} (he : M.1[h]? = some (.inl (t, x))) (ht : t < 4) (hdg : decode cc pc = .ok (.arraylength, 1))
    (kk : W p l e R s m args below meth c H locs cells slots Q (F0 m (pc + 1) ls (.int (Int32.ofNat x.1) :: rest))) : W p l e R s m args below meth c H locs cells slots Q (F0 m pc ls (.ref (ρ h) :: rest)) :=
  va_alen hexec hb hK (x_one hD he (Nat.ble_eq_true_of_le ht)) 0 t rfl (xtys_get dA ht) rfl hdg kk
variable {b0 : Nat} {S : Nat × (Nat → Int32)}
theorem xro_use {h t n : Nat} {f : Nat → Int32} (h0 : xro S h = some (t, n, f)) : (h = 1000002 ∧ t = 0 ∧ n = S.1 ∧ f = S.2) ∨ (h = 1000001 ∧ t = 0 ∧ n = 10 ∧ f = fun k => ([1, 5, 7, 6, 2, 8, 3, 0, 9, 4] : List Int32).getD k 0) ∨ (h = 1000000 ∧ t = 3 ∧ n = 4 ∧ f = fun k => ([108, 101, 110, 116] : List Int32).getD k 0) := by
  unfold xro at h0
  cases q2 : Nat.beq h 1000002 with
  | true => rw [q2] at h0; cases h0; exact Or.inl ⟨Nat.eq_of_beq_eq_true q2, rfl, rfl, rfl⟩
  | false =>
    rw [q2] at h0
    cases q1 : Nat.beq h 1000001 with
    | true => rw [q1] at h0; cases h0; exact Or.inr (Or.inl ⟨Nat.eq_of_beq_eq_true q1, rfl, rfl, rfl⟩)
    | false =>
      rw [q1] at h0
      cases q0 : Nat.beq h 1000000 with
      | true => rw [q0] at h0; cases h0; exact Or.inr (Or.inr ⟨Nat.eq_of_beq_eq_true q0, rfl, rfl, rfl⟩)
      | false => rw [q0] at h0; cases h0
theorem x_rlen (hexec : p.tables.exec = Jvm.exec) (hb : c.code = cc) (hZ : xZ ρ b0 S A s s.heap) (hS : va_S A s.heap H locs) {h t n : Nat} {f : Nat → Int32} (h0 : xro S h = some (t, n, f)) (hdg : decode cc pc = .ok (.arraylength, 1))
    (kk : W p l e R s m args below meth c H locs cells slots Q (F0 m (pc + 1) ls (.int (Int32.ofNat n) :: rest))) : W p l e R s m args below meth c H locs cells slots Q (F0 m pc ls (.ref (ρ h) :: rest)) := by
  obtain ⟨z1, z2, z3, z4, z5, -⟩ := hZ
  rcases xro_use h0 with ⟨rfl, rfl, rfl, rfl⟩ | ⟨rfl, rfl, rfl, rfl⟩ | ⟨rfl, rfl, rfl, rfl⟩
  · exact va_tlen hexec hb z5 hS rfl hdg kk
  · exact va_tlen hexec hb z4 hS rfl hdg kk
  · exact va_tlen hexec hb z3 hS rfl hdg kk
theorem x_rald (hexec : p.tables.exec = Jvm.exec) (hb : c.code = cc) (hZ : xZ ρ b0 S A s s.heap) (hS : va_S A s.heap H locs) {h t n : Nat} {f : Nat → Int32} (h0 : xro S h = some (t, n, f)) (ht : t = 0) {i : Int32} (hin : vp_in i n) (hdg : decode cc pc = .ok (.iaload, 1))
    (kk : W p l e R s m args below meth c H locs cells slots Q (F0 m (pc + 1) ls (.int (f i.toNatClampNeg) :: rest))) : W p l e R s m args below meth c H locs cells slots Q (F0 m pc ls (.int i :: .ref (ρ h) :: rest)) := by
  obtain ⟨z1, z2, z3, z4, z5, -⟩ := hZ
  rcases xro_use h0 with ⟨rfl, rfl, rfl, rfl⟩ | ⟨rfl, rfl, rfl, rfl⟩ | ⟨rfl, rfl, rfl, rfl⟩
  · exact va_ti hexec hb z5 hS hin rfl hdg kk
  · exact va_ti hexec hb z4 hS hin rfl hdg kk
  · cases ht
theorem x_rcald (hexec : p.tables.exec = Jvm.exec) (hb : c.code = cc) (hZ : xZ ρ b0 S A s s.heap) (hS : va_S A s.heap H locs) {h t n : Nat} {f : Nat → Int32} (h0 : xro S h = some (t, n, f)) (ht : t = 3) {i : Int32} (hin : vp_in i n) (hdg : decode cc pc = .ok (.caload, 1))
    (kk : W p l e R s m args below meth c H locs cells slots Q (F0 m (pc + 1) ls (.int (f i.toNatClampNeg) :: rest))) : W p l e R s m args below meth c H locs cells slots Q (F0 m pc ls (.int i :: .ref (ρ h) :: rest)) := by
  obtain ⟨z1, z2, z3, z4, z5, -⟩ := hZ
  rcases xro_use h0 with ⟨rfl, rfl, rfl, rfl⟩ | ⟨rfl, rfl, rfl, rfl⟩ | ⟨rfl, rfl, rfl, rfl⟩
  · cases ht
  · cases ht
  · exact va_tc hexec hb z3 hS hin rfl hdg kk
end XROWS
theorem xw_mem {w : Cond} (h : w ∈ lw_tbl) (hg : goodWord w = true) : w ∈ xW := List.mem_filter.mpr ⟨h, hg⟩
theorem xw_oi1 : Cond.instanceMethod Lib.objectInit ∈ xW := by decide +kernel
theorem xw_oi2 : Cond.code Lib.objectInit ⟨#[0xb1]⟩ 1 none ∈ xW := by decide +kernel
theorem xw_mi : Cond.initialized "java/lang/Math" ∈ xW := by decide +kernel
theorem xw_mx1 : Cond.static Lib.Math.max.name ∈ xW := by decide +kernel
theorem xw_mx2 : Cond.code Lib.Math.max.name Lib.Math.max.code 2 (some .int) ∈ xW := by decide +kernel
theorem xw_mn1 : Cond.static Lib.Math.min.name ∈ xW := by decide +kernel
theorem xw_mn2 : Cond.code Lib.Math.min.name Lib.Math.min.code 2 (some .int) ∈ xW := by decide +kernel

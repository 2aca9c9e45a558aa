/-! A plain step of the small machine is a step of the machine. -/
set_option maxHeartbeats 4000000 in
set_option maxRecDepth 100000 in
theorem xone_W {p : Program} {l : Launch} {e : Env} {R : Room} {s : State} {m : MethodId} {args : Array Value} {below : List Frame} {meth : Method} {c : Code} {H : Heap} {locs : List Loc} {cells slots : Nat} {Q : State → Prop} {ls : Array Slot} {D : va_G} {A : Nat → Prop} {ρ : Nat → Nat} {dA : Nat → ClassId} {b0 : Nat} {S : Nat × (Nat → Int32)} {i : Nat} {x : xI} {F F' : xF} {M M' : xM} {C0 S0 : Nat}
    (hx : p.tables.exec = Jvm.exec) (hb : c.code = (xmd i).2.1) (hml : c.maxLocals = (xmd i).2.2.1) (hown : s.vm.findClass (xmd i).1.cls = some m.cls) (hts : ∀ w ∈ xW, w.before args s = true) (hname : (xmd i).1.name = "<init>" → meth.name = "<init>")
    (hZ : xZ ρ b0 S A s s.heap) (hK : va_K D xCl (xtys dA) s) (hA : ∀ q, s.heap.size ≤ q → A q) (hρ : ∀ k, k < 999999 → ρ (k + 1) = ρ k + 1) (hRf : 8 ≤ R.frames) (hRl : 100 ≤ R.locals)
    (hQ : xokQ i) (hcod : xcod i F.1 = some x) (h1 : xone S x F M = some (F', M')) (hkd : xkd x = 0)
    (hcap : M'.2.2.1 ≤ 999999) (hS : va_S A s.heap H locs) (hD : xDy ρ dA D A M H) (hL : xLo ρ F.2.1 ls (xmd i).2.2.1) (hc : cells + C0 = M.2.2.1) (hs : slots + S0 = M.2.2.2) (hRc : M'.2.2.1 ≤ R.cells + C0) (hRs : M'.2.2.2 ≤ R.slots + S0)
    (k : ∀ (H' : Heap) (locs' : List Loc) (ls' : Array Slot) (c' s' : Nat), xDy ρ dA D A M' H' → va_S A s.heap H' locs' → xLo ρ F'.2.1 ls' (xmd i).2.2.1 → c' + C0 = M'.2.2.1 → s' + S0 = M'.2.2.2 → W p l e R s m args below meth c H' locs' c' s' Q (F0 m F'.1 ls' (F'.2.2.map (xv ρ)))) :
    W p l e R s m args below meth c H locs cells slots Q (F0 m F.1 ls (F.2.2.map (xv ρ))) := by
  obtain ⟨pc, L, st⟩ := F
  obtain ⟨ins, len, a, b, w, v⟩ := x
  obtain ⟨hd, hp⟩ := hQ.2 pc _ hcod
  dsimp only at hd hp hL ⊢
  cases ins
  case iconst n =>
    simp only [xokP, Bool.and_eq_true, decide_eq_true_eq] at hp
    obtain ⟨e1, e2⟩ := hp
    subst e1; subst e2
    cases h1
    exact lv_iconst hx hb hd rfl (k H locs ls cells slots hD hS hL hc hs)
  case bipush n =>
    simp only [xokP, Bool.and_eq_true, decide_eq_true_eq] at hp
    obtain ⟨e1, e2⟩ := hp
    subst e1; subst e2
    cases h1
    exact lv_bipush hx hb hd rfl (k H locs ls cells slots hD hS hL hc hs)
  case sipush n =>
    simp only [xokP, Bool.and_eq_true, decide_eq_true_eq] at hp
    obtain ⟨e1, e2⟩ := hp
    subst e1; subst e2
    cases h1
    exact lv_sipush hx hb hd rfl (k H locs ls cells slots hD hS hL hc hs)
  case lconst n =>
    simp only [xokP, Bool.and_eq_true, decide_eq_true_eq] at hp
    obtain ⟨e1, e2⟩ := hp
    subst e1; subst e2
    cases h1
    exact lv_lconst hx hb hd rfl (k H locs ls cells slots hD hS hL hc hs)
  case ldc2_w idx =>
    simp only [xokP, Bool.and_eq_true, decide_eq_true_eq] at hp
    obtain ⟨e1, e2⟩ := hp
    subst e1
    cases h1
    split at e2
    · exact lv_ldc2 hx hb hown (hts _ (xat_w e2 rfl)) hd (k H locs ls cells slots hD hS hL hc hs)
    · cases e2
  case ldc idx =>
    simp only [xokP, Bool.and_eq_true, decide_eq_true_eq, Bool.or_eq_true] at hp
    obtain ⟨e1, e2⟩ := hp
    subst e1
    dsimp only [xone] at h1
    cases ha : Nat.beq a 0 with
    | false =>
      rw [ha] at h1
      cases ha2 : Nat.beq a 2 with
      | false => rw [ha2] at h1; cases h1
      | true =>
        rw [ha2] at h1
        cases h1
        have ea := Nat.eq_of_beq_eq_true ha2
        subst ea
        rcases e2 with (e2 | e2) | e2
        · cases e2
        · have ei := Nat.eq_of_beq_eq_true e2.2
          subst ei
          have eR := e2.1.2
          rw [eR] at hown
          exact va_ldcS hx hb hown hZ.2.2.2.2.2.2.2.2.2.2.2.1.1 hd (k H locs ls cells slots hD hS hL hc hs)
        · cases e2.1
    | true =>
      rw [ha] at h1
      cases h1
      rcases e2 with (e2 | e2) | e2
      · rw [Nat.eq_of_beq_eq_true ha] at e2; cases e2
      · rw [Nat.eq_of_beq_eq_true ha] at e2; cases e2.1.1
      · have e2 := e2.2
        split at e2
        · exact lv_ldc hx hb hown (hts _ (xat_w e2 rfl)) hd (k H locs ls cells slots hD hS hL hc hs)
        · cases e2
  case ldc_w idx =>
    simp only [xokP, Bool.and_eq_true, decide_eq_true_eq, Bool.or_eq_true] at hp
    obtain ⟨e1, e2⟩ := hp
    subst e1
    dsimp only [xone] at h1
    cases ha : Nat.beq a 0 with
    | false => rw [ha] at h1; cases h1
    | true =>
      rw [ha] at h1
      cases h1
      rcases e2 with e2 | e2
      · rw [Nat.eq_of_beq_eq_true ha] at e2; cases e2
      · split at e2
        · exact lv_ldcw hx hb hown (hts _ (xat_w e2 rfl)) hd (k H locs ls cells slots hD hS hL hc hs)
        · cases e2
  case iload idx =>
    simp only [xokP, Bool.and_eq_true, decide_eq_true_eq] at hp
    obtain ⟨e1, e2⟩ := hp
    subst e1; subst e2
    dsimp only [xone] at h1
    split at h1
    · rename_i y hy
      cases h1
      exact lv_iload hx hb hd (hL.2.2 _ _ hy) (k H locs ls cells slots hD hS hL hc hs)
    · cases h1
  case iload_n idx =>
    simp only [xokP, Bool.and_eq_true, decide_eq_true_eq] at hp
    obtain ⟨e1, e2⟩ := hp
    subst e1; subst e2
    dsimp only [xone] at h1
    split at h1
    · rename_i y hy
      cases h1
      exact lv_iload_n hx hb hd rfl (hL.2.2 _ _ hy) (k H locs ls cells slots hD hS hL hc hs)
    · cases h1
  case lload idx =>
    simp only [xokP, Bool.and_eq_true, decide_eq_true_eq] at hp
    obtain ⟨e1, e2⟩ := hp
    subst e1; subst e2
    dsimp only [xone] at h1
    split at h1
    · rename_i y hy
      cases h1
      exact lv_lload hx hb hd (hL.2.2 _ _ hy) (k H locs ls cells slots hD hS hL hc hs)
    · cases h1
  case lload_n idx =>
    simp only [xokP, Bool.and_eq_true, decide_eq_true_eq] at hp
    obtain ⟨e1, e2⟩ := hp
    subst e1; subst e2
    dsimp only [xone] at h1
    split at h1
    · rename_i y hy
      cases h1
      exact lv_lload_n hx hb hd rfl (hL.2.2 _ _ hy) (k H locs ls cells slots hD hS hL hc hs)
    · cases h1
  case aload idx =>
    simp only [xokP, Bool.and_eq_true, decide_eq_true_eq] at hp
    obtain ⟨e1, e2⟩ := hp
    subst e1; subst e2
    dsimp only [xone] at h1
    split at h1
    · rename_i y hy
      cases h1
      exact lv_aload hx hb hd (hL.2.2 _ _ hy) (k H locs ls cells slots hD hS hL hc hs)
    · cases h1
  case aload_n idx =>
    simp only [xokP, Bool.and_eq_true, decide_eq_true_eq] at hp
    obtain ⟨e1, e2⟩ := hp
    subst e1; subst e2
    dsimp only [xone] at h1
    split at h1
    · rename_i y hy
      cases h1
      exact lv_aload_n hx hb hd rfl (hL.2.2 _ _ hy) (k H locs ls cells slots hD hS hL hc hs)
    · cases h1
  case istore idx =>
    simp only [xokP, Bool.and_eq_true, decide_eq_true_eq] at hp
    obtain ⟨⟨e1, e2⟩, e3⟩ := hp
    subst e1; subst e2
    dsimp only [xone] at h1
    split at h1
    · cases h1
      exact lv_istore hx hb hd hL.has e3 rfl (fun ls' h' => k H locs ls' cells slots hD hS (xLo.set1 rfl h') hc hs)
    · cases h1
  case istore_n idx =>
    simp only [xokP, Bool.and_eq_true, decide_eq_true_eq] at hp
    obtain ⟨⟨e1, e2⟩, e3⟩ := hp
    subst e1; subst e2
    dsimp only [xone] at h1
    split at h1
    · cases h1
      exact lv_istore_n hx hb hd rfl hL.has e3 rfl (fun ls' h' => k H locs ls' cells slots hD hS (xLo.set1 rfl h') hc hs)
    · cases h1
  case lstore idx =>
    simp only [xokP, Bool.and_eq_true, decide_eq_true_eq] at hp
    obtain ⟨⟨e1, e2⟩, e3⟩ := hp
    subst e1; subst e2
    dsimp only [xone] at h1
    split at h1
    · cases h1
      exact lv_lstore hx hb hd hL.has e3 rfl (fun ls' h' => k H locs ls' cells slots hD hS (xLo.set2 rfl h') hc hs)
    · cases h1
  case lstore_n idx =>
    simp only [xokP, Bool.and_eq_true, decide_eq_true_eq] at hp
    obtain ⟨⟨e1, e2⟩, e3⟩ := hp
    subst e1; subst e2
    dsimp only [xone] at h1
    split at h1
    · cases h1
      exact lv_lstore_n hx hb hd rfl hL.has e3 rfl (fun ls' h' => k H locs ls' cells slots hD hS (xLo.set2 rfl h') hc hs)
    · cases h1
  case astore idx =>
    simp only [xokP, Bool.and_eq_true, decide_eq_true_eq] at hp
    obtain ⟨⟨e1, e2⟩, e3⟩ := hp
    subst e1; subst e2
    dsimp only [xone] at h1
    split at h1
    · cases h1
      exact lv_astore hx hb hd hL.has e3 rfl (fun ls' h' => k H locs ls' cells slots hD hS (xLo.set1 rfl h') hc hs)
    · cases h1
  case astore_n idx =>
    simp only [xokP, Bool.and_eq_true, decide_eq_true_eq] at hp
    obtain ⟨⟨e1, e2⟩, e3⟩ := hp
    subst e1; subst e2
    dsimp only [xone] at h1
    split at h1
    · cases h1
      exact lv_astore_n hx hb hd rfl hL.has e3 rfl (fun ls' h' => k H locs ls' cells slots hD hS (xLo.set1 rfl h') hc hs)
    · cases h1
  case iinc idx n =>
    simp only [xokP, Bool.and_eq_true, decide_eq_true_eq] at hp
    obtain ⟨⟨⟨e1, e2⟩, e3⟩, e4⟩ := hp
    subst e1; subst e2; subst e4
    dsimp only [xone] at h1
    split at h1
    · rename_i y c9 hy hc9
      cases hc9
      cases h1
      obtain ⟨j, hj⟩ := List.getElem?_of_mem (xla_mem (ρ := ρ) hy)
      exact lv_iinc hx hb hd hL.has hj rfl e3 rfl (fun ls' h' => k H locs ls' cells slots hD hS (xLo.set1 rfl h') hc hs)
    · cases h1
  case iadd =>
    simp only [xokP, decide_eq_true_eq] at hp
    subst hp
    dsimp only [xone] at h1
    split at h1
    · cases h1
      exact lv_iadd hx hb hd (k H locs ls cells slots hD hS hL hc hs)
    · cases h1
  case isub =>
    simp only [xokP, decide_eq_true_eq] at hp
    subst hp
    dsimp only [xone] at h1
    split at h1
    · cases h1
      exact lv_isub hx hb hd (k H locs ls cells slots hD hS hL hc hs)
    · cases h1
  case imul =>
    simp only [xokP, decide_eq_true_eq] at hp
    subst hp
    dsimp only [xone] at h1
    split at h1
    · cases h1
      exact lv_imul hx hb hd (k H locs ls cells slots hD hS hL hc hs)
    · cases h1
  case iand =>
    simp only [xokP, decide_eq_true_eq] at hp
    subst hp
    dsimp only [xone] at h1
    split at h1
    · cases h1
      exact lv_iand hx hb hd (k H locs ls cells slots hD hS hL hc hs)
    · cases h1
  case ior =>
    simp only [xokP, decide_eq_true_eq] at hp
    subst hp
    dsimp only [xone] at h1
    split at h1
    · cases h1
      exact lv_ior hx hb hd (k H locs ls cells slots hD hS hL hc hs)
    · cases h1
  case ixor =>
    simp only [xokP, decide_eq_true_eq] at hp
    subst hp
    dsimp only [xone] at h1
    split at h1
    · cases h1
      exact lv_ixor hx hb hd (k H locs ls cells slots hD hS hL hc hs)
    · cases h1
  case ishl =>
    simp only [xokP, decide_eq_true_eq] at hp
    subst hp
    dsimp only [xone] at h1
    split at h1
    · cases h1
      exact lv_ishl hx hb hd (k H locs ls cells slots hD hS hL hc hs)
    · cases h1
  case ishr =>
    simp only [xokP, decide_eq_true_eq] at hp
    subst hp
    dsimp only [xone] at h1
    split at h1
    · cases h1
      exact lv_ishr hx hb hd (k H locs ls cells slots hD hS hL hc hs)
    · cases h1
  case ladd =>
    simp only [xokP, decide_eq_true_eq] at hp
    subst hp
    dsimp only [xone] at h1
    split at h1
    · cases h1
      exact lv_ladd hx hb hd (k H locs ls cells slots hD hS hL hc hs)
    · cases h1
  case lsub =>
    simp only [xokP, decide_eq_true_eq] at hp
    subst hp
    dsimp only [xone] at h1
    split at h1
    · cases h1
      exact lv_lsub hx hb hd (k H locs ls cells slots hD hS hL hc hs)
    · cases h1
  case lmul =>
    simp only [xokP, decide_eq_true_eq] at hp
    subst hp
    dsimp only [xone] at h1
    split at h1
    · cases h1
      exact lv_lmul hx hb hd (k H locs ls cells slots hD hS hL hc hs)
    · cases h1
  case land =>
    simp only [xokP, decide_eq_true_eq] at hp
    subst hp
    dsimp only [xone] at h1
    split at h1
    · cases h1
      exact lv_land hx hb hd (k H locs ls cells slots hD hS hL hc hs)
    · cases h1
  case lor =>
    simp only [xokP, decide_eq_true_eq] at hp
    subst hp
    dsimp only [xone] at h1
    split at h1
    · cases h1
      exact lv_lor hx hb hd (k H locs ls cells slots hD hS hL hc hs)
    · cases h1
  case lxor =>
    simp only [xokP, decide_eq_true_eq] at hp
    subst hp
    dsimp only [xone] at h1
    split at h1
    · cases h1
      exact lv_lxor hx hb hd (k H locs ls cells slots hD hS hL hc hs)
    · cases h1
  case lcmp =>
    simp only [xokP, decide_eq_true_eq] at hp
    subst hp
    dsimp only [xone] at h1
    split at h1
    · cases h1
      exact W.lcmp hx hb hd (k H locs ls cells slots hD hS hL hc hs)
    · cases h1
  case iushr =>
    simp only [xokP, decide_eq_true_eq] at hp
    subst hp
    dsimp only [xone] at h1
    split at h1
    · cases h1
      exact lv_iushr hx hb hd rfl (k H locs ls cells slots hD hS hL hc hs)
    · cases h1
  case lushr =>
    simp only [xokP, decide_eq_true_eq] at hp
    subst hp
    dsimp only [xone] at h1
    split at h1
    · cases h1
      exact lv_lushr hx hb hd rfl (k H locs ls cells slots hD hS hL hc hs)
    · cases h1
  case lshl =>
    simp only [xokP, decide_eq_true_eq] at hp
    subst hp
    dsimp only [xone] at h1
    split at h1
    · cases h1
      exact lv_lshl hx hb hd rfl (k H locs ls cells slots hD hS hL hc hs)
    · cases h1
  case i2l =>
    simp only [xokP, decide_eq_true_eq] at hp
    subst hp
    dsimp only [xone] at h1
    split at h1
    · cases h1
      exact lv_i2l hx hb hd rfl (k H locs ls cells slots hD hS hL hc hs)
    · cases h1
  case l2i =>
    simp only [xokP, decide_eq_true_eq] at hp
    subst hp
    dsimp only [xone] at h1
    split at h1
    · cases h1
      exact lv_l2i hx hb hd rfl (k H locs ls cells slots hD hS hL hc hs)
    · cases h1
  case i2c =>
    simp only [xokP, decide_eq_true_eq] at hp
    subst hp
    dsimp only [xone] at h1
    split at h1
    · cases h1
      exact lv_i2c hx hb hd rfl (k H locs ls cells slots hD hS hL hc hs)
    · cases h1
  case idiv =>
    simp only [xokP, decide_eq_true_eq] at hp
    subst hp
    dsimp only [xone] at h1
    split at h1
    · split at h1
      · cases h1
      · rename_i hne
        cases h1
        exact lv_idiv hx hb hd hne (k H locs ls cells slots hD hS hL hc hs)
    · cases h1
  case irem =>
    simp only [xokP, decide_eq_true_eq] at hp
    subst hp
    dsimp only [xone] at h1
    split at h1
    · split at h1
      · cases h1
      · rename_i hne
        cases h1
        exact lv_irem hx hb hd hne (k H locs ls cells slots hD hS hL hc hs)
    · cases h1
  case lrem =>
    simp only [xokP, decide_eq_true_eq] at hp
    subst hp
    dsimp only [xone] at h1
    split at h1
    · split at h1
      · cases h1
      · rename_i hne
        cases h1
        exact lv_lrem hx hb hd hne (k H locs ls cells slots hD hS hL hc hs)
    · cases h1
  case dup =>
    simp only [xokP, decide_eq_true_eq] at hp
    subst hp
    dsimp only [xone] at h1
    split at h1
    · rename_i y r
      cases hq : Nat.beq y.category 1 with
      | false => rw [hq] at h1; cases h1
      | true =>
        rw [hq] at h1
        cases h1
        exact lv_dup hx hb hd (by rw [xv_cat]; exact Nat.eq_of_beq_eq_true hq) (k H locs ls cells slots hD hS hL hc hs)
    · cases h1
  case pop =>
    simp only [xokP, decide_eq_true_eq] at hp
    subst hp
    dsimp only [xone] at h1
    split at h1
    · rename_i y r
      cases hq : Nat.beq y.category 1 with
      | false => rw [hq] at h1; cases h1
      | true =>
        rw [hq] at h1
        cases h1
        exact lv_pop hx hb hd (by rw [xv_cat]; exact Nat.eq_of_beq_eq_true hq) (k H locs ls cells slots hD hS hL hc hs)
    · cases h1
  case dup2 =>
    simp only [xokP, decide_eq_true_eq] at hp
    subst hp
    dsimp only [xone] at h1
    split at h1
    · rename_i y z r
      cases hq : (Nat.beq y.category 1 && Nat.beq z.category 1) with
      | false => rw [hq] at h1; cases h1
      | true =>
        rw [hq] at h1
        cases h1
        rw [Bool.and_eq_true] at hq
        exact lv_dup2_11 hx hb hd (by rw [xv_cat]; exact Nat.eq_of_beq_eq_true hq.1) (by rw [xv_cat]; exact Nat.eq_of_beq_eq_true hq.2) (k H locs ls cells slots hD hS hL hc hs)
    · cases h1
  case goto off =>
    simp only [xokP, Bool.and_eq_true, decide_eq_true_eq] at hp
    obtain ⟨e1, e2⟩ := hp
    subst e1
    cases h1
    exact lv_goto hx hb hd e2 (k H locs ls cells slots hD hS hL hc hs)
  case ifCond kd off =>
    simp only [xokP, Bool.and_eq_true, decide_eq_true_eq] at hp
    obtain ⟨e1, e2⟩ := hp
    subst e1
    dsimp only [xone] at h1
    split at h1
    · cases h1
      have k' := k H locs ls cells slots hD hS hL hc hs
      dsimp only at k'
      cases kd
      · refine lv_if_eq hx hb hd e2 (fun q => ?_) (fun q => ?_)
        · rw [show xcmp .eq _ _ = true from decide_eq_true q] at k'
          exact k'
        · rw [show xcmp .eq _ _ = false from decide_eq_false (by first | exact q | exact fun z => z q)] at k'
          exact k'
      · refine lv_if_ne hx hb hd e2 (fun q => ?_) (fun q => ?_)
        · rw [show xcmp .ne _ _ = true from decide_eq_true q] at k'
          exact k'
        · rw [show xcmp .ne _ _ = false from decide_eq_false (by first | exact q | exact fun z => z q)] at k'
          exact k'
      · refine lv_if_lt hx hb hd e2 (fun q => ?_) (fun q => ?_)
        · rw [show xcmp .lt _ _ = true from decide_eq_true q] at k'
          exact k'
        · rw [show xcmp .lt _ _ = false from decide_eq_false (by first | exact q | exact fun z => z q)] at k'
          exact k'
      · refine lv_if_ge hx hb hd e2 (fun q => ?_) (fun q => ?_)
        · rw [show xcmp .ge _ _ = true from decide_eq_true q] at k'
          exact k'
        · rw [show xcmp .ge _ _ = false from decide_eq_false (by first | exact q | exact fun z => z q)] at k'
          exact k'
      · refine lv_if_gt hx hb hd e2 (fun q => ?_) (fun q => ?_)
        · rw [show xcmp .gt _ _ = true from decide_eq_true q] at k'
          exact k'
        · rw [show xcmp .gt _ _ = false from decide_eq_false (by first | exact q | exact fun z => z q)] at k'
          exact k'
      · refine lv_if_le hx hb hd e2 (fun q => ?_) (fun q => ?_)
        · rw [show xcmp .le _ _ = true from decide_eq_true q] at k'
          exact k'
        · rw [show xcmp .le _ _ = false from decide_eq_false (by first | exact q | exact fun z => z q)] at k'
          exact k'
    · cases h1
  case if_icmp kd off =>
    simp only [xokP, Bool.and_eq_true, decide_eq_true_eq] at hp
    obtain ⟨e1, e2⟩ := hp
    subst e1
    dsimp only [xone] at h1
    split at h1
    · cases h1
      have k' := k H locs ls cells slots hD hS hL hc hs
      dsimp only at k'
      cases kd
      · refine lv_icmp_eq hx hb hd e2 (fun q => ?_) (fun q => ?_)
        · rw [show xcmp .eq _ _ = true from decide_eq_true q] at k'
          exact k'
        · rw [show xcmp .eq _ _ = false from decide_eq_false (by first | exact q | exact fun z => z q)] at k'
          exact k'
      · refine lv_icmp_ne hx hb hd e2 (fun q => ?_) (fun q => ?_)
        · rw [show xcmp .ne _ _ = true from decide_eq_true q] at k'
          exact k'
        · rw [show xcmp .ne _ _ = false from decide_eq_false (by first | exact q | exact fun z => z q)] at k'
          exact k'
      · refine lv_icmp_lt hx hb hd e2 (fun q => ?_) (fun q => ?_)
        · rw [show xcmp .lt _ _ = true from decide_eq_true q] at k'
          exact k'
        · rw [show xcmp .lt _ _ = false from decide_eq_false (by first | exact q | exact fun z => z q)] at k'
          exact k'
      · refine lv_icmp_ge hx hb hd e2 (fun q => ?_) (fun q => ?_)
        · rw [show xcmp .ge _ _ = true from decide_eq_true q] at k'
          exact k'
        · rw [show xcmp .ge _ _ = false from decide_eq_false (by first | exact q | exact fun z => z q)] at k'
          exact k'
      · refine lv_icmp_gt hx hb hd e2 (fun q => ?_) (fun q => ?_)
        · rw [show xcmp .gt _ _ = true from decide_eq_true q] at k'
          exact k'
        · rw [show xcmp .gt _ _ = false from decide_eq_false (by first | exact q | exact fun z => z q)] at k'
          exact k'
      · refine lv_icmp_le hx hb hd e2 (fun q => ?_) (fun q => ?_)
        · rw [show xcmp .le _ _ = true from decide_eq_true q] at k'
          exact k'
        · rw [show xcmp .le _ _ = false from decide_eq_false (by first | exact q | exact fun z => z q)] at k'
          exact k'
    · cases h1
  case tableswitch d lo hi offs =>
    simp only [xokP, Bool.and_eq_true, decide_eq_true_eq, List.all_eq_true] at hp
    obtain ⟨e1, e2⟩ := hp
    dsimp only [xone] at h1
    split at h1
    · split at h1
      · rename_i hq
        cases h1
        exact lv_tableOut hx hb hd hq (Int.toNat_of_nonneg e1).symm (k H locs ls cells slots hD hS hL hc hs)
      · rename_i hq
        split at h1
        · rename_i off ho
          cases h1
          exact lv_tableIn hx hb hd (fun z => hq (Or.inl z)) (fun z => hq (Or.inr z)) ho (Int.toNat_of_nonneg (e2 off (Array.mem_toList_iff.mpr (Array.mem_of_getElem? ho)))).symm (k H locs ls cells slots hD hS hL hc hs)
        · cases h1
    · cases h1
  case getfield idx =>
    simp only [xokP, Bool.and_eq_true, decide_eq_true_eq] at hp
    obtain ⟨e1, e2⟩ := hp
    subst e1
    dsimp only [xone] at h1
    split at h1
    · split at h1
      · rename_i h r x9 ci fs hh
        cases hq : Nat.beq ci a with
        | false => rw [hq] at h1; cases h1
        | true =>
          rw [hq] at h1
          dsimp only [cond_true] at h1
          split at h1
          · rename_i u hu
            cases h1
            have hci := Nat.eq_of_beq_eq_true hq
            subst hci
            unfold xfl at e2
            dsimp only at e2
            split at e2
            · rename_i C T N hcl
              rw [Bool.and_eq_true] at e2
              have hbN := Nat.lt_of_lt_of_le (Nat.lt_succ_self _) (Nat.le_of_ble_eq_true e2.1)
              have hv : (fs.map (xv ρ))[b]? = some (xv ρ u) := by rw [List.getElem?_map, hu]; rfl
              have e3 := e2.2
              split at e3
              · exact va_get hx hb hts (xCl_facts _ _ hcl).1 hown hK (x_one hD hh) 0 rfl hcl b hbN (hts _ (xat_w e3 rfl)) (fun _ z => z) hv hd (k H locs ls cells slots hD hS hL hc hs)
              · have hz := hZ.2.2.2.2.2.2.2.1 _ (List.mem_filter.mpr ⟨xat_use e3, rfl⟩)
                exact va_getN hx hb hts (xCl_facts _ _ hcl).1 hown hK (x_one hD hh) 0 rfl hcl b hbN (va_Nw.use rfl hz) (fun _ z => z) hv hd (k H locs ls cells slots hD hS hL hc hs)
            · cases e2
          · cases h1
      · cases h1
    · cases h1
  case putfield idx =>
    simp only [xokP, Bool.and_eq_true, decide_eq_true_eq] at hp
    obtain ⟨⟨⟨e1, e2⟩, e4⟩, e5⟩ := hp
    subst e1; subst e5
    dsimp only [xone] at h1
    split at h1
    · split at h1
      · rename_i u h r x9 ci fs hh
        cases hq : (Nat.beq ci a && Nat.blt b fs.length && xfit (xty a b) u) with
        | false => rw [hq] at h1; cases h1
        | true =>
          rw [hq] at h1
          cases h1
          rw [Bool.and_eq_true, Bool.and_eq_true] at hq
          have hci := Nat.eq_of_beq_eq_true hq.1.1
          subst hci
          have hl := Nat.lt_of_lt_of_le (Nat.lt_succ_self _) (Nat.le_of_ble_eq_true hq.1.2)
          unfold xfl at e2
          unfold xfin at e4
          dsimp only at e2 e4
          split at e2
          · rename_i C T N hcl
            rw [hcl] at e4
            rw [Bool.and_eq_true] at e2
            have hbN := Nat.lt_of_lt_of_le (Nat.lt_succ_self _) (Nat.le_of_ble_eq_true e2.1)
            have hfin : (T b).2.2.2 = false ∨ (meth.name = "<init>" ∧ (T b).1 = (xmd i).1.cls) := by
              simp only [Bool.or_eq_true, Bool.not_eq_true', Bool.and_eq_true, decide_eq_true_eq] at e4
              rcases e4 with e4 | e4
              · exact Or.inl e4
              · exact Or.inr ⟨hname e4.1.1, e4.1.2⟩
            exact x_put (M := M) hx hb hts hown hK hρ hcap hD hS hcl hbN hh hl hq.2 (hts _ (xat_w e2.2 rfl)) hfin hd (fun H1 locs1 hD1 hS1 => k H1 locs1 ls cells slots hD1 hS1 hL hc hs)
          · cases e2
      · cases h1
    · cases h1
  case getstatic idx =>
    simp only [xokP, Bool.and_eq_true, decide_eq_true_eq] at hp
    obtain ⟨e1, e2⟩ := hp
    subst e1
    cases h1
    split at e2
    · exact va_gets hx hb hZ.1 hS hown (hts _ (xat_w e2 rfl)) (fun _ z => z) hd (k H locs ls cells slots hD hS hL hc hs)
    · exact va_gets hx hb hZ.2.1 hS hown (hts _ (xat_w e2 rfl)) (fun _ z => z) hd (k H locs ls cells slots hD hS hL hc hs)
    · cases e2
  case arraylength =>
    simp only [xokP, decide_eq_true_eq] at hp
    subst hp
    dsimp only [xone] at h1
    split at h1
    · split at h1
      · rename_i h r x9 t c9 hh
        cases hq : Nat.blt t 4 with
        | false => rw [hq] at h1; cases h1
        | true =>
          rw [hq] at h1
          cases h1
          exact x_alen hx hb hK hD hh (Nat.lt_of_lt_of_le (Nat.lt_succ_self _) (Nat.le_of_ble_eq_true hq)) hd (k H locs ls cells slots hD hS hL hc hs)
      · cases h1
      · rename_i h r x9 hh
        split at h1
        · rename_i x8 t n f hr
          cases h1
          exact x_rlen hx hb hZ hS hr hd (k H locs ls cells slots hD hS hL hc hs)
        · cases h1
    · cases h1
  case iaload =>
    simp only [xokP, decide_eq_true_eq] at hp
    subst hp
    dsimp only [xone] at h1
    split at h1
    · split at h1
      · rename_i j h r x9 t n f hh
        cases hq : (Nat.beq t 0 && xin j n) with
        | false => rw [hq] at h1; cases h1
        | true =>
          rw [hq] at h1
          cases h1
          rw [Bool.and_eq_true] at hq
          have ht := Nat.eq_of_beq_eq_true hq.1
          subst ht
          exact va_iald hx hb hK (x_one hD hh) 0 0 rfl (xtys_get dA (by decide)) (xin_use hq.2) hd (k H locs ls cells slots hD hS hL hc hs)
      · cases h1
      · rename_i j h r x9 hh
        split at h1
        · rename_i x8 t n f hr
          cases hq : (Nat.beq t 0 && xin j n) with
          | false => rw [hq] at h1; cases h1
          | true =>
            rw [hq] at h1
            cases h1
            rw [Bool.and_eq_true] at hq
            exact x_rald hx hb hZ hS hr (Nat.eq_of_beq_eq_true hq.1) (xin_use hq.2) hd (k H locs ls cells slots hD hS hL hc hs)
        · cases h1
    · cases h1
  case baload =>
    simp only [xokP, decide_eq_true_eq] at hp
    subst hp
    dsimp only [xone] at h1
    split at h1
    · split at h1
      · rename_i j h r x9 t n f hh
        cases hq : (Nat.beq t 2 && xin j n) with
        | false => rw [hq] at h1; cases h1
        | true =>
          rw [hq] at h1
          cases h1
          rw [Bool.and_eq_true] at hq
          have ht := Nat.eq_of_beq_eq_true hq.1
          subst ht
          exact va_zald hx hb hK (x_one hD hh) 0 2 rfl (xtys_get dA (by decide)) (xin_use hq.2) hd (k H locs ls cells slots hD hS hL hc hs)
      · cases h1
    · cases h1
  case laload =>
    simp only [xokP, decide_eq_true_eq] at hp
    subst hp
    dsimp only [xone] at h1
    split at h1
    · split at h1
      · rename_i j h r x9 t n f hh
        cases hq : (Nat.beq t 1 && xin j n) with
        | false => rw [hq] at h1; cases h1
        | true =>
          rw [hq] at h1
          cases h1
          rw [Bool.and_eq_true] at hq
          have ht := Nat.eq_of_beq_eq_true hq.1
          subst ht
          exact va_lald hx hb hK (x_one hD hh) 0 1 rfl (xtys_get dA (by decide)) (xin_use hq.2) hd (k H locs ls cells slots hD hS hL hc hs)
      · cases h1
    · cases h1
  case caload =>
    simp only [xokP, decide_eq_true_eq] at hp
    subst hp
    dsimp only [xone] at h1
    split at h1
    · split at h1
      · rename_i j h r x9 hh
        split at h1
        · rename_i x8 t n f hr
          cases hq : (Nat.beq t 3 && xin j n) with
          | false => rw [hq] at h1; cases h1
          | true =>
            rw [hq] at h1
            cases h1
            rw [Bool.and_eq_true] at hq
            exact x_rcald hx hb hZ hS hr (Nat.eq_of_beq_eq_true hq.1) (xin_use hq.2) hd (k H locs ls cells slots hD hS hL hc hs)
        · cases h1
      · cases h1
    · cases h1
  case iastore =>
    simp only [xokP, decide_eq_true_eq] at hp
    subst hp
    dsimp only [xone] at h1
    split at h1
    · split at h1
      · rename_i y j h r x9 t n f hh
        cases hq : (Nat.beq t 0 && xin j n) with
        | false => rw [hq] at h1; cases h1
        | true =>
          rw [hq] at h1
          cases h1
          rw [Bool.and_eq_true] at hq
          have ht := Nat.eq_of_beq_eq_true hq.1
          subst ht
          exact x_iast (M := M) hx hb hK hρ hcap hD hS hh (xin_use hq.2) hd (fun H1 locs1 hD1 hS1 => k H1 locs1 ls cells slots hD1 hS1 hL hc hs)
      · cases h1
    · cases h1
  case bastore =>
    simp only [xokP, decide_eq_true_eq] at hp
    subst hp
    dsimp only [xone] at h1
    split at h1
    · split at h1
      · rename_i y j h r x9 t n f hh
        cases hq : (Nat.beq t 2 && xin j n) with
        | false => rw [hq] at h1; cases h1
        | true =>
          rw [hq] at h1
          cases h1
          rw [Bool.and_eq_true] at hq
          have ht := Nat.eq_of_beq_eq_true hq.1
          subst ht
          exact x_zast (M := M) hx hb hK hρ hcap hD hS hh (xin_use hq.2) hd (fun H1 locs1 hD1 hS1 => k H1 locs1 ls cells slots hD1 hS1 hL hc hs)
      · cases h1
    · cases h1
  case lastore =>
    simp only [xokP, decide_eq_true_eq] at hp
    subst hp
    dsimp only [xone] at h1
    split at h1
    · split at h1
      · rename_i y j h r x9 t n f hh
        cases hq : (Nat.beq t 1 && xin j n) with
        | false => rw [hq] at h1; cases h1
        | true =>
          rw [hq] at h1
          cases h1
          rw [Bool.and_eq_true] at hq
          have ht := Nat.eq_of_beq_eq_true hq.1
          subst ht
          exact x_last (M := M) hx hb hK hρ hcap hD hS hh (xin_use hq.2) hd (fun H1 locs1 hD1 hS1 => k H1 locs1 ls cells slots hD1 hS1 hL hc hs)
      · cases h1
    · cases h1
  case new idx =>
    simp only [xokP, Bool.and_eq_true, decide_eq_true_eq] at hp
    obtain ⟨e1, e2⟩ := hp
    subst e1
    have hkd2 : Nat.ble 2000 a = false := by
      cases hz : Nat.ble 2000 a with
      | false => rfl
      | true => simp [xkd, hz] at hkd
    rw [hkd2] at e2
    dsimp only [cond_false] at e2
    split at e2
    · rename_i C T N hcl
      dsimp only [xone] at h1
      cases hq : (Nat.ble M.1.length M.2.2.1) with
      | false => rw [hq] at h1; cases h1
      | true =>
        rw [hq] at h1
        cases h1
        have hnf := (xCl_facts _ _ hcl).2.2.2.2.2
        dsimp only at hRc hRs hnf hcap
        refine x_new hx hb hts hown hK hD hS hA hρ (by omega) hcl (hts _ (xat_w e2 rfl)) (by omega) (by omega) hd (fun H1 s1 hD1 hS1 => ?_)
        exact k H1 locs ls (cells + 1) (slots + N) hD1 hS1 hL (by dsimp only; omega) (by dsimp only; omega)
    · cases e2
  case newarray at9 =>
    simp only [xokP, Bool.and_eq_true, decide_eq_true_eq] at hp
    obtain ⟨⟨⟨e1, e2⟩, e3⟩, e4⟩ := hp
    subst e1
    dsimp only [xone] at h1
    split at h1
    · rename_i n r
      cases hq : (Nat.ble M.1.length M.2.2.1 && !(decide (n < 0)) && Nat.ble n.toNatClampNeg 100000) with
      | false => rw [hq] at h1; cases h1
      | true =>
        rw [hq] at h1
        cases h1
        rw [Bool.and_eq_true, Bool.and_eq_true] at hq
        obtain ⟨⟨q2, q3⟩, q4⟩ := hq
        have hn : ¬ n < 0 := by simpa using q3
        dsimp only at hRc hRs hcap
        refine x_newa hx hb hts hK hD hS hA hρ (by omega) (Nat.lt_of_lt_of_le (Nat.lt_succ_self _) (Nat.le_of_ble_eq_true e3)) e2 (xat_w e4 rfl) hn (Nat.le_of_ble_eq_true q4) (by omega) (by omega) hd (fun H1 s1 hD1 hS1 => ?_)
        exact k H1 locs ls (cells + 1) (slots + n.toNatClampNeg) hD1 hS1 hL (by dsimp only; omega) (by dsimp only; omega)
    · cases h1
  case invokevirtual idx =>
    simp only [xokP, Bool.and_eq_true, decide_eq_true_eq] at hp
    obtain ⟨e1, e2⟩ := hp
    subst e1
    dsimp only [xone] at h1
    split at h1
    · rename_i n h r
      cases hq : (Nat.beq a 1003 && Nat.beq h 1000003 && xin n 4 && xsm r) with
      | false => rw [hq] at h1; cases h1
      | true =>
        rw [hq] at h1
        cases h1
        rw [Bool.and_eq_true, Bool.and_eq_true, Bool.and_eq_true] at hq
        obtain ⟨⟨⟨q1, q2⟩, q3⟩, q4⟩ := hq
        have ha := Nat.eq_of_beq_eq_true q1
        have hh := Nat.eq_of_beq_eq_true q2
        subst ha; subst hh
        have hsm : ((r.map (xv ρ)).map fun v => v.category).sum ≤ 8 := by
          rw [xv_cats]
          exact Nat.le_of_ble_eq_true q4
        exact x_charAt hx hb hml hown hts hZ hRf hRl (by first | omega | exact Nat.le_trans (Nat.le_add_right _ _) hRc) (by first | omega | exact Nat.le_trans (Nat.le_add_right _ _) hRs) (hts _ (xat_w e2 rfl)) hS hL.1 hsm (xin_use q3) hd (fun locs1 hS1 => k H locs1 ls cells slots hD hS1 hL hc hs)
    · cases h1
  case invokespecial idx =>
    simp only [xokP, Bool.and_eq_true, decide_eq_true_eq] at hp
    obtain ⟨e1, e2⟩ := hp
    subst e1
    dsimp only [xone] at h1
    split at h1
    · rename_i h r
      cases hq : (Nat.beq a 1000 && xsm r) with
      | false => rw [hq] at h1; cases h1
      | true =>
        rw [hq] at h1
        cases h1
        rw [Bool.and_eq_true] at hq
        have ha := Nat.eq_of_beq_eq_true hq.1
        subst ha
        have hsm : ((r.map (xv ρ)).map fun v => v.category).sum ≤ 8 := by
          rw [xv_cats]
          exact Nat.le_of_ble_eq_true hq.2
        refine W.objInit hx hb hown (hts _ (xat_w e2 rfl)) (hts _ xw_oi1) (hts _ xw_oi2) rfl (by rw [hml]; exact hL.1) rfl hd (by omega) (by show 2 * 0 + _ + 12 ≤ _; omega) ?_
        exact k H locs ls cells slots hD hS hL hc hs
    · cases h1
  case invokestatic idx =>
    simp only [xokP, Bool.and_eq_true, decide_eq_true_eq] at hp
    obtain ⟨e1, e2⟩ := hp
    subst e1
    dsimp only [xone] at h1
    split at h1
    · rename_i y z r
      cases hq : (Nat.beq a 1001 && xsm r) with
      | true =>
        rw [hq] at h1
        cases h1
        rw [Bool.and_eq_true] at hq
        have ha := Nat.eq_of_beq_eq_true hq.1
        subst ha
        have hsm : ((r.map (xv ρ)).map fun v => v.category).sum ≤ 8 := by
          rw [xv_cats]
          exact Nat.le_of_ble_eq_true hq.2
        exact va_mmax hx hb (by rw [hml]; exact hL.1.symm) hown (hts _ (xat_w e2 rfl)) (hts _ xw_mx1) (hts _ xw_mi) (hts _ xw_mx2) (by omega) (by omega) (by omega) (by omega) hd (k H locs ls cells slots hD hS hL hc hs)
      | false =>
        rw [hq] at h1
        cases hq2 : (Nat.beq a 1002 && xsm r) with
        | true =>
          rw [hq2] at h1
          cases h1
          rw [Bool.and_eq_true] at hq2
          have ha := Nat.eq_of_beq_eq_true hq2.1
          subst ha
          have hsm : ((r.map (xv ρ)).map fun v => v.category).sum ≤ 8 := by
            rw [xv_cats]
            exact Nat.le_of_ble_eq_true hq2.2
          exact va_mmin hx hb (by rw [hml]; exact hL.1.symm) hown (hts _ (xat_w e2 rfl)) (hts _ xw_mn1) (hts _ xw_mi) (hts _ xw_mn2) (by omega) (by omega) (by omega) (by omega) hd (k H locs ls cells slots hD hS hL hc hs)
        | false => rw [hq2] at h1; cases h1
    · cases h1
  all_goals (first | (cases h1; done) | (exfalso; revert h1; simp [xone]))

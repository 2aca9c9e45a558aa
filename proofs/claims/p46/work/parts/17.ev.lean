/-! Evaluations of the small machine: rules. -/
theorem xexec_fuel {S : Nat × (Nat → Int32)} : ∀ (n d i : Nat) (F : xF) (M : xM) (r : xR), xexec S n d i F M = some r → xexec S (n + 1) d i F M = some r := by
  intro n
  induction n with
  | zero => intro d i F M r h; cases h
  | succ n ih =>
    intro d i F M r h
    unfold xexec at h ⊢
    cases hx : xcod i F.1 with
    | none => rw [hx] at h; cases h
    | some x =>
      rw [hx] at h
      dsimp only at h ⊢
      split at h
      · split at h
        · exact ih _ _ _ _ _ h
        · cases h
      · exact h
      · split at h
        · cases h
        · rename_i d'
          cases hm : xmay x F.2.2 M with
          | false => rw [hm] at h; cases h
          | true =>
            rw [hm] at h
            dsimp only [cond_true] at h ⊢
            split at h
            · cases h
            · rename_i v M' h1
              rw [ih _ _ _ _ _ h1]
              exact ih _ _ _ _ _ h
            · rename_i k M' h1
              rw [ih _ _ _ _ _ h1]
              dsimp only
              split at h
              · exact h
              · split at h
                · cases h
                · exact ih _ _ _ _ _ h
      · exact h
      · exact h
theorem xexec_le {S : Nat × (Nat → Int32)} {n m d i : Nat} {F : xF} {M : xM} {r : xR} (hnm : n ≤ m) (h : xexec S n d i F M = some r) : xexec S m d i F M = some r := by
  induction hnm with
  | refl => exact h
  | step _ ih => exact xexec_fuel _ _ _ _ _ _ ih
def Ev (S : Nat × (Nat → Int32)) (d i : Nat) (F : xF) (M : xM) (r : xR) : Prop := ∃ n, xexec S n d i F M = some r
/-- a whole call -/
def Cm (S : Nat × (Nat → Int32)) (d j : Nat) (as : List Value) (M : xM) (r : xR) : Prop := Ev S d j (0, xent (xmd j).2.2.1 as, []) M r
section EV
variable {S : Nat × (Nat → Int32)} {d i : Nat} {F F' : xF} {M M' : xM} {r : xR} {x : xI}
theorem ev_one (hc : xcod i F.1 = some x) (hk : xkd x = 0) (h1 : xone S x F M = some (F', M')) (h : Ev S d i F' M' r) : Ev S d i F M r := by
  obtain ⟨n, h⟩ := h
  refine ⟨n + 1, ?_⟩
  simp only [xexec, hc, hk, h1]
  exact h
def xpure (x : xI) : Bool := match x.1 with
  | .iconst _ => true | .bipush _ => true | .sipush _ => true | .lconst _ => true | .ldc2_w _ => true | .ldc _ => true | .ldc_w _ => true
  | .iload _ => true | .iload_n _ => true | .lload _ => true | .lload_n _ => true | .aload _ => true | .aload_n _ => true
  | .istore _ => true | .istore_n _ => true | .lstore _ => true | .lstore_n _ => true | .astore _ => true | .astore_n _ => true | .iinc _ _ => true
  | .iadd => true | .isub => true | .imul => true | .iand => true | .ior => true | .ixor => true | .ishl => true | .ishr => true | .iushr => true
  | .ladd => true | .lsub => true | .lmul => true | .land => true | .lor => true | .lxor => true | .lshl => true | .lushr => true | .lcmp => true | .i2l => true | .l2i => true | .i2c => true
  | .dup => true | .pop => true | .dup2 => true | .goto _ => true | .getstatic _ => true
  | .invokespecial _ => Nat.beq x.2.2.1 1000
  | .invokestatic _ => Nat.beq x.2.2.1 1001 || Nat.beq x.2.2.1 1002
  | _ => false
def xstp (x : xI) (F : xF) : Option xF := match xone (0, fun _ => 0) x F ([], false, 0, 0) with
  | some r => some r.1
  | none => none
def xrunP : Nat → Nat → xF → Option xF
  | 0, _, F => some F
  | k + 1, i, F => match xcod i F.1 with
    | some x => bif xpure x then (match xstp x F with
      | some F' => xrunP k i F'
      | none => none) else none
    | none => none
theorem xone_pure {S0 : Nat × (Nat → Int32)} {M0 : xM} (hp : xpure x = true) : xone S x F M = (xone S0 x F M0).map (fun r => (r.1, M)) := by
  obtain ⟨pc, L, st⟩ := F
  obtain ⟨ins, len, a, b, w, v⟩ := x
  cases ins <;> (first | (cases hp; done) | (simp only [xone, cond_eq_ite]; (repeat' split) <;> simp_all))
theorem xkd_pure (hp : xpure x = true) : xkd x = 0 := by
  obtain ⟨ins, len, a, b, w, v⟩ := x
  cases ins <;> (first | (cases hp; done) | rfl | skip)
  · have := Nat.eq_of_beq_eq_true hp
    subst this
    rfl
  · unfold xpure at hp
    rw [Bool.or_eq_true] at hp
    rcases hp with hp | hp <;> (have := Nat.eq_of_beq_eq_true hp; subst this; rfl)
theorem xstp_ok (hp : xpure x = true) (h : xstp x F = some F') : xone S x F M = some (F', M) ∧ xkd x = 0 := by
  refine ⟨?_, xkd_pure hp⟩
  rw [xone_pure (S0 := (0, fun _ => 0)) (M0 := ([], false, 0, 0)) hp]
  unfold xstp at h
  split at h
  · rename_i r hr
    rw [hr]
    cases h
    rfl
  · cases h
theorem ev_run (k : Nat) (h : xrunP k i F = some F') (hE : Ev S d i F' M r) : Ev S d i F M r := by
  induction k generalizing F with
  | zero => cases h; exact hE
  | succ k ih =>
    unfold xrunP at h
    split at h
    · rename_i x hx
      cases hp : xpure x with
      | false => rw [hp] at h; cases h
      | true =>
        rw [hp] at h
        dsimp only [cond_true] at h
        split at h
        · rename_i F1 h1
          obtain ⟨h2, h3⟩ := xstp_ok (S := S) (M := M) hp h1
          exact ev_one hx h3 h2 (ih h)
        · cases h
    · cases h
variable {pc : Nat} {L : xL} {st : List Value} {H : List xE} {z : Bool × Nat × Nat}
theorem hs_eq {H : List xE} {q : Nat} {c c' : xE} (h : H[q]? = some c') : (H.set q c)[q]? = some c := by
  rw [List.getElem?_set, if_pos rfl, if_pos (List.getElem?_eq_some_iff.mp h).1]
theorem hs_ne {H : List xE} {q a : Nat} {c c' : xE} (hne : q ≠ a) (h : H[a]? = some c') : (H.set q c)[a]? = some c' := by
  rw [List.getElem?_set, if_neg hne, h]
theorem hs_self {H : List xE} {q : Nat} {c : xE} (h : H[q]? = some c) : H.set q c = H := by
  apply List.ext_getElem?
  intro j
  rw [List.getElem?_set]
  by_cases hj : q = j
  · subst hj
    rw [if_pos rfl, if_pos (List.getElem?_eq_some_iff.mp h).1, h]
  · rw [if_neg hj]
theorem hs_none {H : List xE} {q a : Nat} {c : xE} (h : H[a]? = none) : (H.set q c)[a]? = none := by
  rw [List.getElem?_eq_none_iff] at h ⊢
  rw [List.length_set]
  exact h
abbrev xus (z y : Int32) : Int32 := (z.toUInt32 >>> (y.toUInt32 &&& Int32.toUInt32 31)).toInt32
abbrev xul (z : Int64) (y : Int32) : Int64 := (z.toUInt64 >>> (y.toInt64.toUInt64 &&& Int64.toUInt64 63)).toInt64
def xcP (k : Jvm.ClassFile.Cond) (x y : Int32) : Prop := match k with
  | .eq => x = y
  | .ne => ¬ x = y
  | .lt => x < y
  | .ge => y ≤ x
  | .gt => y < x
  | .le => x ≤ y
theorem xcP_T {k : Jvm.ClassFile.Cond} {x y : Int32} (h : xcP k x y) : xcmp k x y = true := by cases k <;> exact decide_eq_true h
theorem xcP_F {k : Jvm.ClassFile.Cond} {x y : Int32} (h : ¬ xcP k x y) : xcmp k x y = false := by cases k <;> exact decide_eq_false h
theorem ev_icmp_T {k : Jvm.ClassFile.Cond} {off : Int} {t b w : Nat} {v : Value} {x y : Int32} (hc : xcod i pc = some (.if_icmp k off, 3, t, b, w, v)) (h : xcP k x y) (hE : Ev S d i (t, L, st) M r) : Ev S d i (pc, L, .int y :: .int x :: st) M r :=
  ev_one hc rfl (by simp only [xone, xcP_T h, cond_true] <;> rfl) hE
theorem ev_icmp_F {k : Jvm.ClassFile.Cond} {off : Int} {t b w : Nat} {v : Value} {x y : Int32} (hc : xcod i pc = some (.if_icmp k off, 3, t, b, w, v)) (h : ¬ xcP k x y) (hE : Ev S d i (pc + 3, L, st) M r) : Ev S d i (pc, L, .int y :: .int x :: st) M r :=
  ev_one hc rfl (by simp only [xone, xcP_F h, cond_false] <;> rfl) hE
theorem ev_icmp {k : Jvm.ClassFile.Cond} {off : Int} {t b w : Nat} {v : Value} {x y : Int32} (hc : xcod i pc = some (.if_icmp k off, 3, t, b, w, v)) (h1 : xcP k x y → Ev S d i (t, L, st) M r) (h2 : ¬ xcP k x y → Ev S d i (pc + 3, L, st) M r) : Ev S d i (pc, L, .int y :: .int x :: st) M r :=
  (Classical.em (xcP k x y)).elim (fun h => ev_icmp_T hc h (h1 h)) (fun h => ev_icmp_F hc h (h2 h))
theorem ev_if_T {k : Jvm.ClassFile.Cond} {off : Int} {t b w : Nat} {v : Value} {x : Int32} (hc : xcod i pc = some (.ifCond k off, 3, t, b, w, v)) (h : xcP k x 0) (hE : Ev S d i (t, L, st) M r) : Ev S d i (pc, L, .int x :: st) M r :=
  ev_one hc rfl (by simp only [xone, xcP_T h, cond_true] <;> rfl) hE
theorem ev_if_F {k : Jvm.ClassFile.Cond} {off : Int} {t b w : Nat} {v : Value} {x : Int32} (hc : xcod i pc = some (.ifCond k off, 3, t, b, w, v)) (h : ¬ xcP k x 0) (hE : Ev S d i (pc + 3, L, st) M r) : Ev S d i (pc, L, .int x :: st) M r :=
  ev_one hc rfl (by simp only [xone, xcP_F h, cond_false] <;> rfl) hE
theorem ev_if {k : Jvm.ClassFile.Cond} {off : Int} {t b w : Nat} {v : Value} {x : Int32} (hc : xcod i pc = some (.ifCond k off, 3, t, b, w, v)) (h1 : xcP k x 0 → Ev S d i (t, L, st) M r) (h2 : ¬ xcP k x 0 → Ev S d i (pc + 3, L, st) M r) : Ev S d i (pc, L, .int x :: st) M r :=
  (Classical.em (xcP k x 0)).elim (fun h => ev_if_T hc h (h1 h)) (fun h => ev_if_F hc h (h2 h))
theorem ev_getf {idx ci k w h : Nat} {v u : Value} {fs : List Value} (hc : xcod i pc = some (.getfield idx, 3, ci, k, w, v)) (hH : H[h]? = some (.inr (ci, fs))) (hv : fs[k]? = some u) (hE : Ev S d i (pc + 3, L, u :: st) (H, z) r) : Ev S d i (pc, L, .ref h :: st) (H, z) r :=
  ev_one hc rfl (by simp only [xone, hH, hv, Nat.beq_refl, cond_true] <;> rfl) hE
theorem ev_putf {idx ci k w h : Nat} {v u : Value} {fs : List Value} (hc : xcod i pc = some (.putfield idx, 3, ci, k, w, v)) (hH : H[h]? = some (.inr (ci, fs))) (hf : (Nat.blt k fs.length && xfit (xty ci k) u) = true) (hE : Ev S d i (pc + 3, L, st) (H.set h (.inr (ci, fs.set k u)), z) r) : Ev S d i (pc, L, u :: .ref h :: st) (H, z) r :=
  ev_one hc rfl (by
    rw [Bool.and_eq_true] at hf
    simp only [xone, hH, hf.1, hf.2, Nat.beq_refl, Bool.and_self, cond_true] <;> rfl) hE
theorem ev_alen {ln a b w h t m : Nat} {v : Value} {c : ((Nat → Int32) ⊕ (Nat → Int64) ⊕ (Nat → UInt32) ⊕ (Nat → UInt64) ⊕ (Nat → Option Nat))} (hc : xcod i pc = some (.arraylength, ln, a, b, w, v)) (hH : H[h]? = some (.inl (t, m, c))) (ht : Nat.blt t 4 = true) (hE : Ev S d i (pc + 1, L, .int (nI m) :: st) (H, z) r) : Ev S d i (pc, L, .ref h :: st) (H, z) r :=
  ev_one hc rfl (by simp only [xone, hH, ht, cond_true] <;> rfl) hE
theorem ev_iald {ln a b w h m : Nat} {v : Value} {f : Nat → Int32} {j : Int32} (hc : xcod i pc = some (.iaload, ln, a, b, w, v)) (hH : H[h]? = some (.inl (0, m, .inl f))) (hi : xin j m = true) (hE : Ev S d i (pc + 1, L, .int (f j.toNatClampNeg) :: st) (H, z) r) : Ev S d i (pc, L, .int j :: .ref h :: st) (H, z) r :=
  ev_one hc rfl (by simp only [xone, hH, hi, Nat.beq_refl, Bool.and_self, cond_true] <;> rfl) hE
theorem ev_bald {ln a b w h m : Nat} {v : Value} {f : Nat → Int32} {j : Int32} (hc : xcod i pc = some (.baload, ln, a, b, w, v)) (hH : H[h]? = some (.inl (2, m, .inl f))) (hi : xin j m = true) (hE : Ev S d i (pc + 1, L, .int (f j.toNatClampNeg) :: st) (H, z) r) : Ev S d i (pc, L, .int j :: .ref h :: st) (H, z) r :=
  ev_one hc rfl (by simp only [xone, hH, hi, Nat.beq_refl, Bool.and_self, cond_true] <;> rfl) hE
theorem ev_lald {ln a b w h m : Nat} {v : Value} {f : Nat → Int64} {j : Int32} (hc : xcod i pc = some (.laload, ln, a, b, w, v)) (hH : H[h]? = some (.inl (1, m, .inr (.inl f)))) (hi : xin j m = true) (hE : Ev S d i (pc + 1, L, .long (f j.toNatClampNeg) :: st) (H, z) r) : Ev S d i (pc, L, .int j :: .ref h :: st) (H, z) r :=
  ev_one hc rfl (by simp only [xone, hH, hi, Nat.beq_refl, Bool.and_self, cond_true] <;> rfl) hE
theorem ev_riald {ln a b w h t m : Nat} {v : Value} {f : Nat → Int32} {j : Int32} (hc : xcod i pc = some (.iaload, ln, a, b, w, v)) (hH : H[h]? = none) (hr : xro S h = some (0, m, f)) (hi : xin j m = true) (hE : Ev S d i (pc + 1, L, .int (f j.toNatClampNeg) :: st) (H, z) r) : Ev S d i (pc, L, .int j :: .ref h :: st) (H, z) r :=
  ev_one hc rfl (by simp only [xone, hH, hr, hi, Nat.beq_refl, Bool.and_self, cond_true] <;> rfl) hE
theorem ev_rcald {ln a b w h m : Nat} {v : Value} {f : Nat → Int32} {j : Int32} (hc : xcod i pc = some (.caload, ln, a, b, w, v)) (hH : H[h]? = none) (hr : xro S h = some (3, m, f)) (hi : xin j m = true) (hE : Ev S d i (pc + 1, L, .int (f j.toNatClampNeg) :: st) (H, z) r) : Ev S d i (pc, L, .int j :: .ref h :: st) (H, z) r :=
  ev_one hc rfl (by simp only [xone, hH, hr, hi, Nat.beq_refl, Bool.and_self, cond_true] <;> rfl) hE
theorem ev_rlen {ln a b w h t m : Nat} {v : Value} {f : Nat → Int32} (hc : xcod i pc = some (.arraylength, ln, a, b, w, v)) (hH : H[h]? = none) (hr : xro S h = some (t, m, f)) (hE : Ev S d i (pc + 1, L, .int (nI m) :: st) (H, z) r) : Ev S d i (pc, L, .ref h :: st) (H, z) r :=
  ev_one hc rfl (by simp only [xone, hH, hr] <;> rfl) hE
theorem ev_iast {ln a b w h m : Nat} {v : Value} {f : Nat → Int32} {j y : Int32} (hc : xcod i pc = some (.iastore, ln, a, b, w, v)) (hH : H[h]? = some (.inl (0, m, .inl f))) (hi : xin j m = true) (hE : Ev S d i (pc + 1, L, st) (H.set h (.inl (0, m, .inl (upd f j.toNatClampNeg y))), z) r) : Ev S d i (pc, L, .int y :: .int j :: .ref h :: st) (H, z) r :=
  ev_one hc rfl (by simp only [xone, hH, hi, Nat.beq_refl, Bool.and_self, cond_true] <;> rfl) hE
theorem ev_bast {ln a b w h m : Nat} {v : Value} {f : Nat → Int32} {j y : Int32} (hc : xcod i pc = some (.bastore, ln, a, b, w, v)) (hH : H[h]? = some (.inl (2, m, .inl f))) (hi : xin j m = true) (hE : Ev S d i (pc + 1, L, st) (H.set h (.inl (2, m, .inl (upd f j.toNatClampNeg (vp_nar .boolean y)))), z) r) : Ev S d i (pc, L, .int y :: .int j :: .ref h :: st) (H, z) r :=
  ev_one hc rfl (by simp only [xone, hH, hi, Nat.beq_refl, Bool.and_self, cond_true] <;> rfl) hE
theorem ev_last {ln a b w h m : Nat} {v : Value} {f : Nat → Int64} {j : Int32} {y : Int64} (hc : xcod i pc = some (.lastore, ln, a, b, w, v)) (hH : H[h]? = some (.inl (1, m, .inr (.inl f)))) (hi : xin j m = true) (hE : Ev S d i (pc + 1, L, st) (H.set h (.inl (1, m, .inr (.inl (vp_updL f j.toNatClampNeg y)))), z) r) : Ev S d i (pc, L, .long y :: .int j :: .ref h :: st) (H, z) r :=
  ev_one hc rfl (by simp only [xone, hH, hi, Nat.beq_refl, Bool.and_self, cond_true] <;> rfl) hE
theorem ev_div {ln a b w : Nat} {v : Value} {x y : Int32} (hc : xcod i pc = some (.idiv, ln, a, b, w, v)) (hne : ¬ y = 0) (hE : Ev S d i (pc + 1, L, .int (x / y) :: st) M r) : Ev S d i (pc, L, .int y :: .int x :: st) M r :=
  ev_one hc rfl (by simp only [xone, if_neg hne] <;> rfl) hE
theorem ev_rem {ln a b w : Nat} {v : Value} {x y : Int32} (hc : xcod i pc = some (.irem, ln, a, b, w, v)) (hne : ¬ y = 0) (hE : Ev S d i (pc + 1, L, .int (x - x / y * y) :: st) M r) : Ev S d i (pc, L, .int y :: .int x :: st) M r :=
  ev_one hc rfl (by simp only [xone, if_neg hne] <;> rfl) hE
theorem ev_lrem {ln a b w : Nat} {v : Value} {x y : Int64} (hc : xcod i pc = some (.lrem, ln, a, b, w, v)) (hne : ¬ y = 0) (hE : Ev S d i (pc + 1, L, .long (x - x / y * y) :: st) M r) : Ev S d i (pc, L, .long y :: .long x :: st) M r :=
  ev_one hc rfl (by simp only [xone, if_neg hne] <;> rfl) hE
theorem ev_ret {v : Option Value} (hc : xcod i F.1 = some x) (hk : xkd x = 1) (hr : xret (xmd i).2.2.2.1 x.1 F.2.2 = some v) (he : r = (.inr v, M)) : Ev S d i F M r := by
  refine ⟨1, ?_⟩
  simp only [xexec, hc, hk, hr, he]
theorem ev_throw (hc : xcod i F.1 = some x) (hk : xkd x = 3) (hs : xsm F.2.2 = true) (he : r = (.inl (x.2.2.1 - 2000), (M.1, M.2.1, M.2.2.1 + 1, M.2.2.2 + 6))) : Ev S d i F M r := by
  refine ⟨1, ?_⟩
  simp only [xexec, hc, hk, hs, he, cond_true]
def xchk (x : xI) (as rest : List Value) : Bool := Nat.beq (xkd x) 2 && Nat.beq (xmd x.2.2.1).2.2.2.2.2.1 as.length && Nat.ble (xlay as).length (xmd x.2.2.1).2.2.1 && xsm rest
def xchkS (x : xI) (as : List Value) : Bool := match (xmd x.2.2.1).2.2.2.2.1 with
  | 0 => true
  | 3 => true
  | 2 => (match as with | .ref _ :: _ => true | _ => false)
  | _ => false
theorem xargs_of {as rest : List Value} {n : Nat} (h : Nat.beq n as.length = true) : xargs n (as.reverse ++ rest) = as ∧ (as.reverse ++ rest).drop n = rest ∧ Nat.ble n (as.reverse ++ rest).length = true := by
  have hn := Nat.eq_of_beq_eq_true h
  subst hn
  unfold xargs
  refine ⟨?_, ?_, Nat.ble_eq_true_of_le (by simp)⟩
  · rw [List.take_left' (by simp), List.reverse_reverse]
  · rw [List.drop_left' (by simp)]
theorem xmay_S {as rest : List Value} (h1 : xchk x as rest = true) (h2 : xchkS x as = true) : xmay x (as.reverse ++ rest) M = true ∧ xkd x = 2 := by
  unfold xchk at h1
  simp only [Bool.and_eq_true] at h1
  obtain ⟨⟨⟨a1, a2⟩, a3⟩, a4⟩ := h1
  obtain ⟨b1, b2, b3⟩ := xargs_of (rest := rest) a2
  refine ⟨?_, Nat.eq_of_beq_eq_true a1⟩
  unfold xmay
  rw [b1, b2, b3, a3]
  unfold xsm at a4
  rw [a4]
  unfold xchkS at h2
  simp only [Bool.true_and]
  split at h2
  · rename_i h; rw [h] <;> rfl
  · rename_i h; rw [h] <;> rfl
  · rename_i h
    rw [h]
    exact h2
  · cases h2
theorem xmay_V {as rest : List Value} {h : Nat} {fs : List Value} (h1 : xchk x (.ref h :: as) rest = true) (h2 : (xmd x.2.2.1).2.2.2.2.1 = 1) (hH : M.1[h]? = some (.inr (x.2.2.2.1, fs))) : xmay x ((.ref h :: as).reverse ++ rest) M = true ∧ xkd x = 2 := by
  unfold xchk at h1
  simp only [Bool.and_eq_true] at h1
  obtain ⟨⟨⟨a1, a2⟩, a3⟩, a4⟩ := h1
  obtain ⟨b1, b2, b3⟩ := xargs_of (rest := rest) a2
  refine ⟨?_, Nat.eq_of_beq_eq_true a1⟩
  unfold xmay
  rw [b1, b2, b3, a3]
  unfold xsm at a4
  rw [a4, h2]
  simp only [Bool.true_and, hH, Nat.beq_refl]
theorem ev_callG {as rest : List Value} {u : Option Value} (hc : xcod i pc = some x) (h1 : xchk x as rest = true) (hm : xmay x (as.reverse ++ rest) M = true ∧ xkd x = 2) (hC : Cm S d x.2.2.1 as M (.inr u, M')) (hE : Ev S (d + 1) i (pc + 3, L, u.toList ++ rest) M' r) : Ev S (d + 1) i (pc, L, as.reverse ++ rest) M r := by
  obtain ⟨n1, e1⟩ := hC
  obtain ⟨n2, e2⟩ := hE
  unfold xchk at h1
  simp only [Bool.and_eq_true] at h1
  obtain ⟨b1, b2, b3⟩ := xargs_of (rest := rest) h1.1.1.2
  refine ⟨max n1 n2 + 1, ?_⟩
  simp only [xexec, hc, hm.2, hm.1, b1, b2, cond_true]
  rw [xexec_le (Nat.le_max_left n1 n2) e1]
  exact xexec_le (Nat.le_max_right n1 n2) e2
theorem ev_call {as rest : List Value} {u : Option Value} (hc : xcod i pc = some x) (h1 : (xchk x as rest && xchkS x as) = true) (hC : Cm S d x.2.2.1 as M (.inr u, M')) (hst : st = as.reverse ++ rest) (hE : Ev S (d + 1) i (pc + 3, L, u.toList ++ rest) M' r) : Ev S (d + 1) i (pc, L, st) M r := by
  rw [Bool.and_eq_true] at h1
  subst hst
  exact ev_callG hc h1.1 (xmay_S h1.1 h1.2) hC hE
theorem ev_callV {as rest : List Value} {u : Option Value} {h : Nat} {fs : List Value} (hc : xcod i pc = some x) (h1 : (xchk x (.ref h :: as) rest && Nat.beq (xmd x.2.2.1).2.2.2.2.1 1) = true) (hH : M.1[h]? = some (.inr (x.2.2.2.1, fs))) (hC : Cm S d x.2.2.1 (.ref h :: as) M (.inr u, M')) (hst : st = (.ref h :: as).reverse ++ rest) (hE : Ev S (d + 1) i (pc + 3, L, u.toList ++ rest) M' r) : Ev S (d + 1) i (pc, L, st) M r := by
  rw [Bool.and_eq_true] at h1
  subst hst
  exact ev_callG hc h1.1 (xmay_V h1.1 (Nat.eq_of_beq_eq_true h1.2) hH) hC hE
theorem ev_cast {F1 : xF} {M1 : xM} (hF : F = F1) (hM : M = M1) (h : Ev S d i F1 M1 r) : Ev S d i F M r := by subst hF; subst hM; exact h
/-- a loop whose state behind j turns is known -/
theorem ev_iter {fr : Nat → xF} {Mm : Nat → xM} (N : Nat) (hs : ∀ j, j < N → Ev S d i (fr (j + 1)) (Mm (j + 1)) r → Ev S d i (fr j) (Mm j) r) (h : Ev S d i (fr N) (Mm N) r) : Ev S d i (fr 0) (Mm 0) r := by
  induction N with
  | zero => exact h
  | succ N ih => exact ih (fun j hj => hs j (by omega)) (hs N (by omega) h)
end EV

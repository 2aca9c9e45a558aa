/-! Walks: a run goes on to a frame, or ends; frames of heaps; failing functions. -/
def Go (S : Nat × (Nat → Int32)) (d i : Nat) (F : xF) (M : xM) (Q : xF → xM → Prop) (R : xR → Prop) : Prop :=
  (∃ F' M', (∀ r, Ev S d i F' M' r → Ev S d i F M r) ∧ Q F' M') ∨ (∃ r, Ev S d i F M r ∧ R r)
theorem nb {a b : Nat} (h : Nat.beq a b = false) : a ≠ b := fun e => by
  subst e
  rw [Nat.beq_refl] at h
  cases h
def xout (k : Nat) : List Nat → Bool
  | [] => true
  | a :: A => !(Nat.beq a k) && xout k A
def xmem (k : Nat) : List Nat → Bool
  | [] => false
  | a :: A => Nat.beq a k || xmem k A
def xsub : List Nat → List Nat → Bool
  | [], _ => true
  | a :: B, A => xmem a A && xsub B A
theorem xo_c {k a : Nat} {A : List Nat} (h : a ≠ k) (h2 : xout k A = true) : xout k (a :: A) = true := by
  have : Nat.beq a k = false := by
    cases hb : Nat.beq a k with
    | false => rfl
    | true => exact absurd (Nat.eq_of_beq_eq_true hb) h
  simp only [xout, this, h2]
  rfl
theorem xm_h {a : Nat} {A : List Nat} : xmem a (a :: A) = true := by simp only [xmem, Nat.beq_refl, Bool.true_or]
theorem xm_t {a b : Nat} {A : List Nat} (h : xmem a A = true) : xmem a (b :: A) = true := by simp only [xmem, h, Bool.or_true]
theorem xs_c {a : Nat} {B A : List Nat} (h : xmem a A = true) (h2 : xsub B A = true) : xsub (a :: B) A = true := by simp only [xsub, h, h2, Bool.and_self]
theorem xo_mem {k a : Nat} {A : List Nat} (h : xout k A = true) (hm : xmem a A = true) : a ≠ k := by
  induction A with
  | nil => cases hm
  | cons b A ih =>
    simp only [xout, Bool.and_eq_true] at h
    simp only [xmem, Bool.or_eq_true] at hm
    rcases hm with hm | hm
    · have := Nat.eq_of_beq_eq_true hm
      subst this
      intro e
      subst e
      rw [Nat.beq_refl] at h
      cases h.1
    · exact ih h.2 hm
theorem xo_sub {k : Nat} {A B : List Nat} (h : xout k A = true) (hs : xsub B A = true) : xout k B = true := by
  induction B with
  | nil => rfl
  | cons b B ih =>
    simp only [xsub, Bool.and_eq_true] at hs
    exact xo_c (xo_mem h hs.1) (ih hs.2)
/-- all cells but those of A are as they were -/
def xfr (A : List Nat) (H H' : List xE) : Prop := ∀ k, xout k A = true → H'[k]? = H[k]?
theorem xfr_refl {A : List Nat} {H : List xE} : xfr A H H := fun _ _ => rfl
theorem xfr_t {A B : List Nat} {H H1 H2 : List xE} (h : xfr A H H1) (hs : xsub B A = true) (h2 : xfr B H1 H2) : xfr A H H2 := fun k hk => (h2 k (xo_sub hk hs)).trans (h k hk)
theorem xfr_s {A B : List Nat} {H H1 : List xE} (hs : xsub B A = true) (h : xfr B H H1) : xfr A H H1 := fun k hk => h k (xo_sub hk hs)
section GO
variable {S : Nat × (Nat → Int32)} {d i : Nat} {F F1 : xF} {M M1 : xM} {Q : xF → xM → Prop} {R : xR → Prop}
theorem go_step (h : ∀ r, Ev S d i F1 M1 r → Ev S d i F M r) (h1 : Go S d i F1 M1 Q R) : Go S d i F M Q R := by
  rcases h1 with ⟨F', M', a, b⟩ | ⟨r, a, b⟩
  · exact Or.inl ⟨F', M', fun r hr => h r (a r hr), b⟩
  · exact Or.inr ⟨r, h r a, b⟩
variable {pc : Nat} {L : xL} {st : List Value} {H : List xE} {z : Bool × Nat × Nat}
theorem go_icmp {k : Jvm.ClassFile.Cond} {off : Int} {t b w : Nat} {v : Value} {x y : Int32} (hc : xcod i pc = some (.if_icmp k off, 3, t, b, w, v)) (h1 : xcP k x y → Go S d i (t, L, st) M Q R) (h2 : ¬ xcP k x y → Go S d i (pc + 3, L, st) M Q R) : Go S d i (pc, L, .int y :: .int x :: st) M Q R :=
  (Classical.em (xcP k x y)).elim (fun h => go_step (fun _ => ev_icmp_T hc h) (h1 h)) (fun h => go_step (fun _ => ev_icmp_F hc h) (h2 h))
theorem go_if {k : Jvm.ClassFile.Cond} {off : Int} {t b w : Nat} {v : Value} {x : Int32} (hc : xcod i pc = some (.ifCond k off, 3, t, b, w, v)) (h1 : xcP k x 0 → Go S d i (t, L, st) M Q R) (h2 : ¬ xcP k x 0 → Go S d i (pc + 3, L, st) M Q R) : Go S d i (pc, L, .int x :: st) M Q R :=
  (Classical.em (xcP k x 0)).elim (fun h => go_step (fun _ => ev_if_T hc h) (h1 h)) (fun h => go_step (fun _ => ev_if_F hc h) (h2 h))
theorem go_putf {idx ci k w h : Nat} {v u : Value} {fs : List Value} (hc : xcod i pc = some (.putfield idx, 3, ci, k, w, v)) (hH : H[h]? = some (.inr (ci, fs))) (hf : (Nat.blt k fs.length && xfit (xty ci k) u) = true) (hE : ∀ H1 : List xE, H1[h]? = some (.inr (ci, fs.set k u)) → xfr [h] H H1 → Go S d i (pc + 3, L, st) (H1, z) Q R) : Go S d i (pc, L, u :: .ref h :: st) (H, z) Q R :=
  go_step (fun _ => ev_putf hc hH hf) (hE _ (hs_eq hH) (fun k hk => by rw [List.getElem?_set, if_neg (xo_mem hk xm_h)]))
theorem xfr_set {h : Nat} {c : xE} : xfr [h] H (H.set h c) := fun k hk => by rw [List.getElem?_set, if_neg (xo_mem hk xm_h)]
theorem go_iast {ln a b w h m : Nat} {v : Value} {f : Nat → Int32} {j y : Int32} (hc : xcod i pc = some (.iastore, ln, a, b, w, v)) (hH : H[h]? = some (.inl (0, m, .inl f))) (hi : xin j m = true) (hE : ∀ H1 : List xE, H1[h]? = some (.inl (0, m, .inl (upd f j.toNatClampNeg y))) → xfr [h] H H1 → Go S d i (pc + 1, L, st) (H1, z) Q R) : Go S d i (pc, L, .int y :: .int j :: .ref h :: st) (H, z) Q R :=
  go_step (fun _ => ev_iast hc hH hi) (hE _ (hs_eq hH) xfr_set)
theorem go_bast {ln a b w h m : Nat} {v : Value} {f : Nat → Int32} {j y : Int32} (hc : xcod i pc = some (.bastore, ln, a, b, w, v)) (hH : H[h]? = some (.inl (2, m, .inl f))) (hi : xin j m = true) (hE : ∀ H1 : List xE, H1[h]? = some (.inl (2, m, .inl (upd f j.toNatClampNeg (vp_nar .boolean y)))) → xfr [h] H H1 → Go S d i (pc + 1, L, st) (H1, z) Q R) : Go S d i (pc, L, .int y :: .int j :: .ref h :: st) (H, z) Q R :=
  go_step (fun _ => ev_bast hc hH hi) (hE _ (hs_eq hH) xfr_set)
theorem go_last {ln a b w h m : Nat} {v : Value} {f : Nat → Int64} {j : Int32} {y : Int64} (hc : xcod i pc = some (.lastore, ln, a, b, w, v)) (hH : H[h]? = some (.inl (1, m, .inr (.inl f)))) (hi : xin j m = true) (hE : ∀ H1 : List xE, H1[h]? = some (.inl (1, m, .inr (.inl (vp_updL f j.toNatClampNeg y)))) → xfr [h] H H1 → Go S d i (pc + 1, L, st) (H1, z) Q R) : Go S d i (pc, L, .long y :: .int j :: .ref h :: st) (H, z) Q R :=
  go_step (fun _ => ev_last hc hH hi) (hE _ (hs_eq hH) xfr_set)
variable {as rest : List Value} {x : xI} {e : Nat} {M' : xM} {r : xR}
theorem ev_callGX (hc : xcod i pc = some x) (h1 : xchk x as rest = true) (hm : xmay x (as.reverse ++ rest) M = true ∧ xkd x = 2) (hh : (xmd i).2.2.2.2.2.2 = []) (hC : Cm S d x.2.2.1 as M (.inl e, M')) : Ev S (d + 1) i (pc, L, as.reverse ++ rest) M (.inl e, M') := by
  obtain ⟨n1, e1⟩ := hC
  unfold xchk at h1
  simp only [Bool.and_eq_true] at h1
  obtain ⟨b1, b2, b3⟩ := xargs_of (rest := rest) h1.1.1.2
  refine ⟨n1 + 1, ?_⟩
  simp only [xexec, hc, hm.2, hm.1, b1, b2, cond_true]
  rw [e1]
  dsimp only
  rw [hh]
theorem ev_callX (hc : xcod i pc = some x) (h1 : (xchk x as rest && xchkS x as) = true) (hh : (xmd i).2.2.2.2.2.2 = []) (hC : Cm S d x.2.2.1 as M (.inl e, M')) (hst : st = as.reverse ++ rest) : Ev S (d + 1) i (pc, L, st) M (.inl e, M') := by
  rw [Bool.and_eq_true] at h1
  subst hst
  exact ev_callGX hc h1.1 (xmay_S h1.1 h1.2) hh hC
theorem ev_callVX {h : Nat} {fs : List Value} (hc : xcod i pc = some x) (h1 : (xchk x (.ref h :: as) rest && Nat.beq (xmd x.2.2.1).2.2.2.2.1 1) = true) (hH : M.1[h]? = some (.inr (x.2.2.2.1, fs))) (hh : (xmd i).2.2.2.2.2.2 = []) (hC : Cm S d x.2.2.1 (.ref h :: as) M (.inl e, M')) (hst : st = (.ref h :: as).reverse ++ rest) : Ev S (d + 1) i (pc, L, st) M (.inl e, M') := by
  rw [Bool.and_eq_true] at h1
  subst hst
  exact ev_callGX hc h1.1 (xmay_V h1.1 (Nat.eq_of_beq_eq_true h1.2) hH) hh hC
theorem ev_callVC {h : Nat} {fs : List Value} {F' : xF} (hc : xcod i pc = some x) (h1 : (xchk x (.ref h :: as) rest && Nat.beq (xmd x.2.2.1).2.2.2.2.1 1) = true) (hH : M.1[h]? = some (.inr (x.2.2.2.1, fs))) (hn : (xmd i).2.2.2.2.2.2.isEmpty = false) (hx : xcatch i (pc, L, (.ref h :: as).reverse ++ rest) e = some F') (hC : Cm S d x.2.2.1 (.ref h :: as) M (.inl e, M')) (hst : st = (.ref h :: as).reverse ++ rest) (hE : Ev S (d + 1) i F' M' r) : Ev S (d + 1) i (pc, L, st) M r := by
  rw [Bool.and_eq_true] at h1
  subst hst
  obtain ⟨n1, e1⟩ := hC
  obtain ⟨n2, e2⟩ := hE
  have hm := xmay_V (M := M) h1.1 (Nat.eq_of_beq_eq_true h1.2) hH
  have h0 := h1.1
  unfold xchk at h0
  simp only [Bool.and_eq_true] at h0
  obtain ⟨b1, b2, b3⟩ := xargs_of (rest := rest) h0.1.1.2
  refine ⟨max n1 n2 + 1, ?_⟩
  simp only [xexec, hc, hm.2, hm.1, b1, b2, cond_true]
  rw [xexec_le (Nat.le_max_left n1 n2) e1]
  dsimp only
  rw [hx]
  cases hh : (xmd i).2.2.2.2.2.2 with
  | nil => rw [hh] at hn; cases hn
  | cons a b => exact xexec_le (Nat.le_max_right n1 n2) e2
theorem ev_tsw {y : Int32} {dd lo hi : Int} {offs : Array Int} {len a b w : Nat} {v : Value} {t : Nat} (hc : xcod i pc = some (.tableswitch dd lo hi offs, len, a, b, w, v)) (ht : (if y.toInt < lo ∨ hi < y.toInt then some ((((pc : Int) + dd).toNat)) else (match offs[(y.toInt - lo).toNat]? with | some off => some (((pc : Int) + off).toNat) | none => none)) = some t) (hE : Ev S d i (t, L, st) M r) : Ev S d i (pc, L, .int y :: st) M r := by
  refine ev_one hc rfl ?_ hE
  simp only [xone]
  split at ht
  · rename_i h
    rw [if_pos h]
    cases ht
    rfl
  · rename_i h
    rw [if_neg h]
    split at ht
    · rename_i off ho
      rw [ho]
      cases ht
      rfl
    · cases ht
end GO
/-- what a call answers, told by its outcome -/
def oI : (Nat ⊕ Int32) → (Nat ⊕ Option Value)
  | .inl e => .inl e
  | .inr v => .inr (some (.int v))
def oL : (Nat ⊕ Int64) → (Nat ⊕ Option Value)
  | .inl e => .inl e
  | .inr v => .inr (some (.long v))
def oU : (Nat ⊕ Unit) → (Nat ⊕ Option Value)
  | .inl e => .inl e
  | .inr _ => .inr none
def oZ {α : Type} (o : Nat ⊕ α) (z : Bool × Nat × Nat) : Bool × Nat × Nat := match o with
  | .inl _ => (z.1, z.2.1 + 1, z.2.2 + 6)
  | .inr _ => z
/-- was an exception caught -/
def zX (b : Bool) (z : Bool × Nat × Nat) : Bool × Nat × Nat := bif b then (z.1, z.2.1 + 1, z.2.2 + 6) else z
section FN
variable {α β γ : Type}
theorem okg {c : Prop} [Decidable c] {A : Option α} {x : α} (h : (if c then A else none) = some x) : c ∧ A = some x := by
  by_cases hc : c
  · rw [if_pos hc] at h; exact ⟨hc, h⟩
  · rw [if_neg hc] at h; cases h
theorem okd {c : Prop} [Decidable c] {A : Option α} {x : α} (h : (if c then none else A) = some x) : ¬ c ∧ A = some x := by
  by_cases hc : c
  · rw [if_pos hc] at h; cases h
  · rw [if_neg hc] at h; exact ⟨hc, h⟩
theorem okb {o : Option α} {f : α → Option β} {x : β} (h : o.bind f = some x) : ∃ y, o = some y ∧ f y = some x := by
  cases o with
  | none => cases h
  | some y => exact ⟨y, rfl, h⟩
def xbnd (o : Option ((Nat ⊕ α) × γ)) (fe : Nat → γ → Option β) (fv : α → γ → Option β) : Option β := match o with
  | none => none
  | some (.inl e, c) => fe e c
  | some (.inr v, c) => fv v c
theorem okx {o : Option ((Nat ⊕ α) × γ)} {fe : Nat → γ → Option β} {fv : α → γ → Option β} {x : β} (h : xbnd o fe fv = some x) : (∃ e c, o = some (.inl e, c) ∧ fe e c = some x) ∨ (∃ v c, o = some (.inr v, c) ∧ fv v c = some x) := by
  cases o with
  | none => cases h
  | some y =>
    obtain ⟨o, c⟩ := y
    cases o with
    | inl e => exact Or.inl ⟨e, c, rfl, h⟩
    | inr v => exact Or.inr ⟨v, c, rfl, h⟩
/-- behind a loop: it went out, or the method ended in it -/
def xlp (o : Option (α ⊕ γ)) (fx : α → Option β) (fr : γ → Option β) : Option β := match o with
  | none => none
  | some (.inl m) => fx m
  | some (.inr c) => fr c
theorem okl {o : Option (α ⊕ γ)} {fx : α → Option β} {fr : γ → Option β} {x : β} (h : xlp o fx fr = some x) : (∃ m, o = some (.inl m) ∧ fx m = some x) ∨ (∃ c, o = some (.inr c) ∧ fr c = some x) := by
  cases o with
  | none => cases h
  | some y =>
    cases y with
    | inl m => exact Or.inl ⟨m, rfl, h⟩
    | inr c => exact Or.inr ⟨c, rfl, h⟩
end FN
theorem xin_of {p : Int32} {m : Nat} (hm : m < 2147483648) (h1 : ¬ p < 0) (h2 : ¬ nI m ≤ p) : xin p m = true := by
  unfold xin
  rw [Int32.lt_iff_toInt_lt, Int32.toInt_zero] at h1
  rw [Int32.le_iff_toInt_le, nI_toInt hm] at h2
  have e : p.toNatClampNeg = p.toInt.toNat := rfl
  have e1 : decide (p < 0) = false := by
    apply decide_eq_false
    rw [Int32.lt_iff_toInt_lt, Int32.toInt_zero]
    exact h1
  have e2 : Nat.ble m p.toNatClampNeg = false := by
    cases hb : Nat.ble m p.toNatClampNeg with
    | false => rfl
    | true =>
      have := Nat.le_of_ble_eq_true hb
      omega
  rw [e1, e2]; rfl
theorem xret_b {v : Int32} (h : v = 0 ∨ v = 1) : xret (some .boolean) .ireturn [.int v] = some (some (.int v)) := by
  rcases h with h | h <;> subst h <;> rfl
theorem go_nr {S : Nat × (Nat → Int32)} {d i : Nat} {F : xF} {M : xM} {Q : xF → xM → Prop} (h : Go S d i F M Q (fun _ => False)) : ∃ F' M', (∀ r, Ev S d i F' M' r → Ev S d i F M r) ∧ Q F' M' := by
  rcases h with h | ⟨_, _, h⟩
  · exact h
  · exact h.elim
theorem go_end {S : Nat × (Nat → Int32)} {d i : Nat} {F : xF} {M : xM} {R : xR → Prop} (h : Go S d i F M (fun _ _ => False) R) : ∃ r, Ev S d i F M r ∧ R r := by
  rcases h with ⟨_, _, _, h⟩ | h
  · exact h.elim
  · exact h

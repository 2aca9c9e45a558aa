/-! Memory that grows: arrays are made, exceptions leave gaps; the counts are bounded. -/
def xIn (M : xM) : Prop := 50 ≤ M.2.2.1 ∧ M.1.length ≤ M.2.2.1
/-- the memory M' is M's but for the cells A and new ones, of which there are at most K -/
def xG (K : Nat) (A : List Nat) (M M' : xM) : Prop := xIn M' ∧ M.2.2.1 ≤ M'.2.2.1 ∧ M'.2.2.1 ≤ M.2.2.1 + K ∧ M'.2.2.2 ≤ M.2.2.2 + 1000 * K ∧ ∀ (k : Nat) (c : xE), xout k A = true → M.1[k]? = some c → M'.1[k]? = some c
def x50 (B : List Nat) : Bool := B.all (fun t => Nat.blt t 50)
section GROW
variable {a b K n Kb : Nat} {A B : List Nat} {M M' M1 M2 : xM} {H H1 H2 : List xE} {z : Bool × Nat × Nat}
theorem xG_refl (h : xIn M) : xG 0 A M M := ⟨h, Nat.le_refl _, Nat.le_refl _, Nat.le_refl _, fun _ _ _ h => h⟩
theorem xG_t (h : xG a A M M1) (h2 : xG b B M1 M2) (hs : xsub B A = true) : xG (a + b) A M M2 := by
  obtain ⟨-, a2, a3, a4, a5⟩ := h
  obtain ⟨b1, b2, b3, b4, b5⟩ := h2
  exact ⟨b1, by omega, by omega, by omega, fun k c hk hc => b5 k c (xo_sub hk hs) (a5 k c hk hc)⟩
theorem xG_le (h : xG a A M M') (hab : a ≤ b) : xG b A M M' := by
  obtain ⟨a1, a2, a3, a4, a5⟩ := h
  exact ⟨a1, a2, by omega, by omega, a5⟩
theorem xfr_len {t : Nat} {e : xE} (hn : H1.length ≤ n) (h : H1[t]? = some e) (f : xfr [t] H1 H2) : H2.length ≤ n := by
  have ht := (List.getElem?_eq_some_iff.mp h).1
  rcases Nat.lt_or_ge n H2.length with q | q
  · exfalso
    have e2 := f n (xo_c (by omega) rfl)
    rw [List.getElem?_eq_none_iff.mpr hn, List.getElem?_eq_none_iff] at e2
    omega
  · exact q
theorem x50_out {k : Nat} (hb : x50 B = true) (hk : 50 ≤ k) : xout k B = true := by
  induction B with
  | nil => rfl
  | cons t B ih =>
    unfold x50 at hb
    rw [List.all_cons, Bool.and_eq_true] at hb
    have := Nat.lt_of_lt_of_le (Nat.lt_succ_self _) (Nat.le_of_ble_eq_true hb.1)
    exact xo_c (by omega) (ih hb.2)
theorem xG_w (h : xG a A M (H1, z)) (f : xfr B H1 H2) (hs : xsub B A = true) (hb : x50 B = true) : xG a A M (H2, z) := by
  obtain ⟨⟨a0, a1⟩, a2, a3, a4, a5⟩ := h
  dsimp only at a0 a1 a2 a3 a4 a5
  refine ⟨⟨a0, ?_⟩, a2, a3, a4, fun k c hk hc => (f k (xo_sub hk hs)).trans (a5 k c hk hc)⟩
  show H2.length ≤ z.2.1
  rcases Nat.lt_or_ge z.2.1 H2.length with q | q
  · exfalso
    have e2 := f z.2.1 (x50_out hb a0)
    rw [List.getElem?_eq_none_iff.mpr a1, List.getElem?_eq_none_iff] at e2
    omega
  · exact q
theorem xG_z (h : xG a A M (H1, z)) (v : Bool) : xG (a + 1) A M (H1, zX v z) := by
  obtain ⟨⟨a0, a1⟩, a2, a3, a4, a5⟩ := h
  dsimp only at a0 a1 a2 a3 a4 a5
  cases v with
  | true => exact ⟨⟨Nat.le_succ_of_le a0, Nat.le_succ_of_le a1⟩, Nat.le_succ_of_le a2, by show z.2.1 + 1 ≤ _; omega, by show z.2.2 + 6 ≤ _; omega, a5⟩
  | false => exact ⟨⟨a0, a1⟩, a2, by show z.2.1 ≤ _; omega, by show z.2.2 ≤ _; omega, a5⟩
theorem xG_zw {v : Bool} (h : xG a A M (H1, z)) (f : xfr B H1 H2) (hs : xsub B A = true) (hb : x50 B = true) : xG (a + 1) A M (H2, zX v z) := xG_z (xG_w h f hs hb) v
theorem xG_wn {t : Nat} {e : xE} (h : xG a A M (H1, z)) (ht : M.2.2.1 ≤ t) (he : H1[t]? = some e) (f : xfr [t] H1 H2) (hM : M.1.length ≤ M.2.2.1 := by assumption) : xG a A M (H2, z) := by
  obtain ⟨⟨a0, a1⟩, a2, a3, a4, a5⟩ := h
  dsimp only at a0 a1 a2 a3 a4 a5
  refine ⟨⟨a0, xfr_len a1 he f⟩, a2, a3, a4, fun k c hk hc => ?_⟩
  have := (List.getElem?_eq_some_iff.mp hc).1
  exact (f k (xo_c (by omega) rfl)).trans (a5 k c hk hc)
theorem xG_new {t : Nat} {c : ((Nat → Int32) ⊕ (Nat → Int64) ⊕ (Nat → UInt32) ⊕ (Nat → UInt64) ⊕ (Nat → Option Nat))} (hi : xIn (H, z)) (hn : n ≤ 1000) : xG 1 A (H, z) (xpad H z.2.1 (.inl (t, n, c)), z.1, z.2.1 + 1, z.2.2 + n) := by
  obtain ⟨a0, a1⟩ := hi
  dsimp only at a0 a1
  refine ⟨⟨Nat.le_succ_of_le a0, ?_⟩, Nat.le_succ _, Nat.le_refl _, by show z.2.2 + n ≤ z.2.2 + _; omega, fun k c hk hc => xpad_old hc⟩
  show (xpad _ _ _).length ≤ _
  rw [xpad_len a1]
  exact Nat.le_refl _
theorem xG_ro {t : Nat} (g : xG a A M M') (hz : M.2.2.1 + K ≤ 1000000) (hc : a ≤ K) (ht : 1000000 ≤ t) : M'.1[t]? = none := by
  obtain ⟨⟨-, a1⟩, -, a3, -, -⟩ := g
  rw [List.getElem?_eq_none_iff]
  omega
theorem xG_hz {k : Nat} (g : xG a A M M') (hz : M.2.2.1 + K ≤ 1000000) (h : a + k ≤ K) : M'.2.2.1 + k ≤ 1000000 := by
  obtain ⟨-, -, a3, -, -⟩ := g
  omega
theorem xG_keep {k : Nat} {c : xE} (g : xG a A M M') (ho : xout k A = true) (h : M.1[k]? = some c) : M'.1[k]? = some c := g.2.2.2.2 k c ho h
theorem succ_mulK (n K : Nat) : (n + 1) * K = K + n * K := by rw [Nat.add_mul, Nat.one_mul, Nat.add_comm]
theorem xG_hn (g : xG a A M M') (hz : M.2.2.1 + (n + 1) * Kb ≤ 1000000) (h : a ≤ Kb) : M'.2.2.1 + n * Kb ≤ 1000000 := by
  obtain ⟨-, -, a3, -, -⟩ := g
  rw [succ_mulK] at hz
  omega
theorem xG_ex (g : xG a A M M') (h : a ≤ Kb) : xG ((n + 1) * Kb) A M M' := xG_le g (by rw [succ_mulK]; omega)
theorem xsub_refl : ∀ A : List Nat, xsub A A = true := by
  have key : ∀ A B : List Nat, (∀ x, x ∈ A → xmem x B = true) → xsub A B = true := by
    intro A
    induction A with
    | nil => intro B _; rfl
    | cons t A ih => intro B h; exact xs_c (h t List.mem_cons_self) (ih B (fun x hx => h x (List.mem_cons_of_mem _ hx)))
  intro A
  refine key A A (fun x hx => ?_)
  clear key
  induction A with
  | nil => cases hx
  | cons t A ih =>
    rcases List.mem_cons.mp hx with rfl | hx
    · exact xm_h
    · exact xm_t (ih hx)
theorem xG_tn (g : xG a A M M1) (h : a ≤ Kb) (g2 : xG (n * Kb) A M1 M2) : xG ((n + 1) * Kb) A M M2 := by
  have := xG_t g g2 (xsub_refl A)
  exact xG_le this (by rw [succ_mulK]; omega)
variable {S : Nat × (Nat → Int32)} {d i : Nat} {F : xF} {P : xF → xM → Prop} {P2 : xR → xM → Prop}
theorem go_loop (h : Go S d i F M1 (fun F' M' => P F' M' ∧ xG (n * Kb) A M1 M') (fun r => ∃ M' : xM, P2 r M' ∧ xG (n * Kb) A M1 M')) (g : xG a A M M1) (hk : a ≤ Kb) : Go S d i F M1 (fun F' M' => P F' M' ∧ xG ((n + 1) * Kb) A M M') (fun r => ∃ M' : xM, P2 r M' ∧ xG ((n + 1) * Kb) A M M') := by
  rcases h with ⟨F', M', h1, h2, h3⟩ | ⟨r, h1, M', h2, h3⟩
  · exact Or.inl ⟨F', M', h1, h2, xG_tn g hk h3⟩
  · exact Or.inr ⟨r, h1, M', h2, xG_tn g hk h3⟩
theorem go_nrL {Q : xF → xM → Prop} {G : xM → Prop} (h : Go S d i F M Q (fun _ => ∃ M' : xM, False ∧ G M')) : ∃ F' M', (∀ r, Ev S d i F' M' r → Ev S d i F M r) ∧ Q F' M' := by
  rcases h with h | ⟨_, _, _, h, _⟩
  · exact h
  · exact h.elim
variable {pc : Nat} {L : xL} {st : List Value} {r : xR}
theorem ev_newa {at9 : ArrayType} {w : Nat} {t b' : Nat} {v : Value} {m : Int32} (hc : xcod i pc = some (.newarray at9, 2, t, b', w, v)) (h0 : (!(decide (m < 0))) = true) (h1 : Nat.ble m.toNatClampNeg 100000 = true) (h2 : Nat.ble H.length z.2.1 = true) (ht : Nat.beq t 1 = false) (hE : Ev S d i (pc + 2, L, .ref z.2.1 :: st) (xpad H z.2.1 (.inl (t, m.toNatClampNeg, .inl fun _ => 0)), z.1, z.2.1 + 1, z.2.2 + m.toNatClampNeg) r) : Ev S d i (pc, L, .int m :: st) (H, z) r :=
  ev_one hc rfl (by simp only [xone, h0, h1, h2, ht, Bool.and_self, cond_true, cond_false] <;> rfl) hE
theorem ev_char {idx b' w : Nat} {v : Value} {j : Int32} (hc : xcod i pc = some (.invokevirtual idx, 3, 1003, b', w, v)) (hi : xin j 4 = true) (hs : xsm st = true) (hE : Ev S d i (pc + 3, L, .int (([108, 101, 110, 116] : List Int32).getD j.toNatClampNeg 0) :: st) M r) : Ev S d i (pc, L, .int j :: .ref 1000003 :: st) M r :=
  ev_one hc rfl (by simp only [xone, hi, hs, Nat.beq_refl, Bool.and_self, cond_true] <;> rfl) hE
end GROW

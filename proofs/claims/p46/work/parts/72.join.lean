/-! The call join. -/
def cm (P Q : Nat) : Nat → Nat
  | 0 => 0
  | k + 1 => if P / 2 ^ k % 2 = 1 then cm P Q k ^^^ (Q * 2 ^ k) else cm P Q k
theorem lN_m64 (a : Nat) : lN (a % 2 ^ 64) = lN a := lN_of_bv (by
  rw [lN_bv]
  apply BitVec.eq_of_toNat_eq
  rw [BitVec.toNat_ofNat, BitVec.toNat_ofNat, Nat.mod_mod])
theorem pL_xor (a b : Nat) : pL a ^^^ pL b = pL (a ^^^ b) := by
  unfold pL
  rw [lN_xor, Nat.xor_mod_two_pow]
theorem pH_xor (a b : Nat) : pH a ^^^ pH b = pH (a ^^^ b) := by
  unfold pH
  rw [lN_xor, Nat.xor_div_two_pow]
theorem addM {A Q k : Nat} (hk : k ≤ 95) (h : Q * 2 ^ k < 2 ^ 96) : t_X4_addMoved (pL Q) (pH Q) (nI k) (pL A) (pH A) = (pL (A ^^^ Q * 2 ^ k), pH (A ^^^ Q * 2 ^ k)) := by
  unfold t_X4_addMoved
  rw [← pL_xor, ← pH_xor]
  have hQ : Q < 2 ^ 96 := Nat.lt_of_le_of_lt (Nat.le_mul_of_pos_right Q (Nat.two_pow_pos k)) h
  by_cases c0 : k = 0
  · subst c0
    rw [if_neg (show ¬ ¬ nI 0 = 0 from fun h => h rfl), Nat.pow_zero, Nat.mul_one]
  · rw [if_pos (show ¬ nI k = 0 from ne_of_nI (b := 0) c0 (by omega) (by decide))]
    by_cases c1 : 64 ≤ k
    · obtain ⟨j, rfl⟩ : ∃ j, k = 64 + j := ⟨k - 64, by omega⟩
      rw [Nat.pow_add, ← Nat.mul_assoc, Nat.mul_right_comm] at h
      have h1 : Q * 2 ^ j < 2 ^ 32 := by omega
      have h2 : Q < 2 ^ 32 := Nat.lt_of_le_of_lt (Nat.le_mul_of_pos_right Q (Nat.two_pow_pos j)) h1
      rw [if_pos (show (64 : Int32) ≤ nI (64 + j) from nI_le (a := 64) c1 (by omega)), show nI (64 + j) - 64 = nI j by rw [show (64 : Int32) = nI 64 from rfl, nI_sub c1, show 64 + j - 64 = j by omega]]
      have e1 : Q * 2 ^ (64 + j) = Q * 2 ^ j * 2 ^ 64 := by rw [Nat.pow_add, ← Nat.mul_assoc, Nat.mul_right_comm]
      rw [e1]
      have e2 : pL (Q * 2 ^ j * 2 ^ 64) = 0 := by unfold pL; rw [Nat.mul_mod_left]; rfl
      have e3 : pH (Q * 2 ^ j * 2 ^ 64) = lN (Q * 2 ^ j) := by unfold pH; rw [Nat.mul_div_cancel _ (by decide)]
      have e4 : pL Q = lN Q := by unfold pL; rw [Nat.mod_eq_of_lt (by omega)]
      rw [e2, e3, e4, lN_shl _ (by omega), Int64.xor_zero]
    · rw [if_neg (show ¬ (64 : Int32) ≤ nI k from nI_ge (b := 64) (by omega) (by decide))]
      have e1 : pL Q <<< ((nI k).toInt64 &&& 63) = pL (Q * 2 ^ k) := by
        unfold pL
        rw [lN_shl _ (by omega), ← lN_m64, Nat.mod_mul_mod]
      have e2 : (pH Q <<< ((nI k).toInt64 &&& 63)) ||| xul (pL Q) (64 - nI k) = pH (Q * 2 ^ k) := by
        unfold pH pL
        have hl : Q % 2 ^ 64 / 2 ^ (64 - k) < 2 ^ k := by
          apply Nat.div_lt_of_lt_mul
          rw [← Nat.pow_add, show 64 - k + k = 64 by omega]
          exact Nat.mod_lt _ (by decide)
        rw [lN_shl _ (by omega), show (64 : Int32) - nI k = nI (64 - k) from nI_sub (a := 64) (by omega), lN_xul (by omega) (by omega), lN_or, Nat.or_comm, or_add hl]
        congr 1
        have e4 : Q % 2 ^ 64 / 2 ^ (64 - k) = Q % 2 ^ 64 * 2 ^ k / 2 ^ 64 := by
          have := Nat.mul_div_mul_right (Q % 2 ^ 64) (2 ^ (64 - k)) (Nat.two_pow_pos k)
          rw [← Nat.pow_add, show 64 - k + k = 64 by omega] at this
          exact this.symm
        rw [e4]
        have e5 : Q * 2 ^ k = Q % 2 ^ 64 * 2 ^ k + 2 ^ 64 * (2 ^ k * (Q / 2 ^ 64)) := by
          have := Nat.div_add_mod Q (2 ^ 64)
          conv => lhs; rw [← this]
          rw [Nat.add_mul, Nat.add_comm, Nat.mul_assoc, Nat.mul_comm (Q / 2 ^ 64)]
        rw [e5, Nat.add_mul_div_left _ _ (by decide), Nat.add_comm]
      rw [e1, e2]
theorem cm_lt {P Q : Nat} (h : ∀ k, k < 96 → P / 2 ^ k % 2 = 1 → Q * 2 ^ k < 2 ^ 96) : ∀ k, k ≤ 96 → cm P Q k < 2 ^ 96 := by
  intro k
  induction k with
  | zero => intro _; exact Nat.two_pow_pos 96
  | succ n ih =>
    intro hn
    show (if P / 2 ^ n % 2 = 1 then _ else _) < _
    by_cases c : P / 2 ^ n % 2 = 1
    · rw [if_pos c]; exact Nat.xor_lt_two_pow (ih (by omega)) (h n (by omega) c)
    · rw [if_neg c]; exact ih (by omega)
theorem prodC {P Q : Nat} (hP : P < 2 ^ 96) (h : ∀ k, k < 96 → P / 2 ^ k % 2 = 1 → Q * 2 ^ k < 2 ^ 96) : q_X4_becomeProduct (pL P) (pH P) (pL Q) (pH Q) = some (pL (cm P Q 96), pH (cm P Q 96)) := by
  obtain ⟨r, hr, g⟩ := loop_inv (F := fun f (x : Int32 × Int64 × Int64) => q_X4_becomeProduct_L8 (pL P) (pH P) (pL Q) (pH Q) f x.1 x.2.1 x.2.2)
    (fun j x => x = (nI j, pL (cm P Q j), pH (cm P Q j)))
    (fun r => r.2 = (pL (cm P Q 96), pH (cm P Q 96))) 96
    (fun f x hx => by
      subst hx
      refine ⟨_, by show q_X4_becomeProduct_L8 _ _ _ _ (f + 1) (nI 96) _ _ = _; rw [q_X4_becomeProduct_L8, if_pos (by decide)], rfl⟩)
    (fun f j x hj hx => by
      subst hx
      refine Or.inr ⟨_, ?_, rfl⟩
      show q_X4_becomeProduct_L8 _ _ _ _ (f + 1) (nI j) (pL (cm P Q j)) (pH (cm P Q j)) = q_X4_becomeProduct_L8 _ _ _ _ f (nI (j + 1)) (pL (cm P Q (j + 1))) (pH (cm P Q (j + 1)))
      rw [q_X4_becomeProduct_L8, if_neg (show ¬ (95 : Int32) < nI j by rw [ltI, nI_toInt (by omega), show (95 : Int32).toInt = 95 from rfl]; omega), hasP hP (by omega), nI_1]
      by_cases c : P / 2 ^ j % 2 = 1
      · have ec : cm P Q (j + 1) = cm P Q j ^^^ Q * 2 ^ j := if_pos c
        rw [if_pos c, if_neg (by decide), addM (by omega) (h j hj c), ec]
      · have ec : cm P Q (j + 1) = cm P Q j := if_neg c
        rw [if_neg c, if_pos rfl, ec])
    10000 0 (nI 0, pL 0, pH 0) rfl (Nat.zero_le _) (by omega)
  have hr' : q_X4_becomeProduct_L8 (pL P) (pH P) (pL Q) (pH Q) 10000 0 0 0 = some r := hr
  unfold q_X4_becomeProduct t_X4_become
  show Option.bind (q_X4_becomeProduct_L8 (pL P) (pH P) (pL Q) (pH Q) 10000 0 0 0) _ = _
  rw [hr', Option.bind_some, g]
theorem bt_tb (P k : Nat) : nI (P / 2 ^ k % 2) = nI (P.testBit k).toNat := by rw [tb_div]
theorem xor_toNat (a b : Bool) : a.toNat ^^^ b.toNat = (a ^^ b).toNat := by cases a <;> cases b <;> rfl
theorem lt_dg {Q i : Nat} (h : Q.testBit i = true) : i ≤ Q.log2 ∧ Q ≠ 0 := by
  have h1 := Nat.ge_two_pow_of_testBit h
  have h0 : Q ≠ 0 := by have := Nat.two_pow_pos i; omega
  exact ⟨(Nat.le_log2 h0).mpr h1, h0⟩
theorem dg_cases {P : Nat} (hP : P < 2 ^ 96) : (P = 0 ∧ dgI P = -1) ∨ (P ≠ 0 ∧ P.log2 ≤ 95 ∧ dgI P = nI P.log2 ∧ P < 2 ^ (P.log2 + 1) ∧ 2 ^ P.log2 ≤ P) := by
  by_cases c : P = 0
  · exact Or.inl ⟨c, if_pos c⟩
  · refine Or.inr ⟨c, ?_, if_neg c, Nat.lt_log2_self, Nat.log2_self_le c⟩
    have := (Nat.log2_lt c).mpr hP
    omega
theorem takeT {s u : Nat} {a10 a11 : Nat → Int64} {w x y z : Int64} (hs : s < 8) (hu : u < 8) : q_X11_takeBoth (nI s) (nI u) a10 a11 w x y z = some (.inr (), (a10 s, a11 s, a10 u, a11 u)) := by
  unfold q_X11_takeBoth
  rw [rsT hs, rsT hu]
  simp only [xbnd, takeS hs, takeS hu, Option.bind_some]
theorem takeF {p q : Int32} {a10 a11 : Nat → Int64} {w x y z : Int64} (h : (p.toInt < 0 ∨ ((8 : Nat) : Int) ≤ p.toInt) ∨ ∃ s, s < 8 ∧ p = nI s ∧ (q.toInt < 0 ∨ ((8 : Nat) : Int) ≤ q.toInt)) : q_X11_takeBoth p q a10 a11 w x y z = some (.inl 2, (w, x, y, z)) := by
  unfold q_X11_takeBoth
  rcases h with h | ⟨s, hs, rfl, h⟩
  · rw [rsF h]; rfl
  · rw [rsT hs, rsF h]; rfl
/-- three shelves, or one that isn't -/
theorem three (p q r : Int32) : (∃ s t u, s < 8 ∧ t < 8 ∧ u < 8 ∧ p = nI s ∧ q = nI t ∧ r = nI u) ∨ (p.toInt < 0 ∨ ((8 : Nat) : Int) ≤ p.toInt) ∨ (∃ s, s < 8 ∧ p = nI s ∧ ((q.toInt < 0 ∨ ((8 : Nat) : Int) ≤ q.toInt) ∨ ∃ t, t < 8 ∧ q = nI t ∧ (r.toInt < 0 ∨ ((8 : Nat) : Int) ≤ r.toInt))) := by
  rcases cls p (n := 8) (by omega) with ⟨s, hs, rfl⟩ | h
  · rcases cls q (n := 8) (by omega) with ⟨t, ht, rfl⟩ | h
    · rcases cls r (n := 8) (by omega) with ⟨u, hu, rfl⟩ | h
      · exact Or.inl ⟨s, t, u, hs, ht, hu, rfl, rfl, rfl⟩
      · exact Or.inr (Or.inr ⟨s, hs, rfl, Or.inr ⟨t, ht, rfl, h⟩⟩)
    · exact Or.inr (Or.inr ⟨s, hs, rfl, Or.inl h⟩)
  · exact Or.inr (Or.inl h)
theorem dgM1 {P : Nat} (h : P ≠ 0) (hP : P < 2 ^ 96) : ¬ dgI P < 0 := by
  rcases dg_cases hP with ⟨rfl, e⟩ | ⟨h0, h95, e, -, -⟩
  · exact absurd rfl h
  · rw [e]; exact nI_pos (by omega)
theorem fitsQ {P Q : Nat} (hP : P < 2 ^ 96) (hQ : Q < 2 ^ 96) (h : P = 0 ∨ Q = 0 ∨ P.log2 + Q.log2 ≤ 95) : ∀ k, k < 96 → P / 2 ^ k % 2 = 1 → Q * 2 ^ k < 2 ^ 96 := by
  intro k hk c
  have c1 : P.testBit k = true := by rw [tb_div] at c; cases e : P.testBit k <;> simp_all
  obtain ⟨g1, g2⟩ := lt_dg c1
  rcases h with h | rfl | h
  · exact absurd h g2
  · rw [Nat.zero_mul]; exact Nat.two_pow_pos 96
  · have h1 : Q < 2 ^ (Q.log2 + 1) := Nat.lt_log2_self
    have h2 : Q * 2 ^ k < 2 ^ (Q.log2 + 1) * 2 ^ k := Nat.mul_lt_mul_of_pos_right h1 (Nat.two_pow_pos k)
    rw [← Nat.pow_add] at h2
    exact Nat.lt_of_lt_of_le h2 (Nat.pow_le_pow_right (by decide) (by omega))
theorem dg_add {P Q : Nat} (h1 : P ≠ 0) (h2 : Q ≠ 0) (hP : P < 2 ^ 96) (hQ : Q < 2 ^ 96) : (dgI P + dgI Q ≤ 95 ↔ P.log2 + Q.log2 ≤ 95) ∧ (dgI P + dgI Q < 96 ↔ P.log2 + Q.log2 ≤ 95) := by
  rcases dg_cases hP with ⟨e, -⟩ | ⟨-, a1, a2, -, -⟩
  · exact absurd e h1
  rcases dg_cases hQ with ⟨e, -⟩ | ⟨-, b1, b2, -, -⟩
  · exact absurd e h2
  rw [a2, b2, nI_add]
  refine ⟨?_, ?_⟩
  · rw [leI, nI_toInt (by omega), show (95 : Int32).toInt = 95 from rfl]; omega
  · rw [ltI, nI_toInt (by omega), show (96 : Int32).toInt = 96 from rfl]; omega
theorem dgN {P : Nat} (hP : P < 2 ^ 96) : (dgI P < 0 ↔ P = 0) := by
  constructor
  · intro h
    by_cases c : P = 0
    · exact c
    · exact absurd h (dgM1 c hP)
  · rintro rfl
    decide
theorem joinCs {s t u P Q : Nat} {a10 a11 : Nat → Int64} {w x y z v v' : Int64} (hs : s < 8) (ht : t < 8) (hu : u < 8) (hP : P < 2 ^ 96) (hQ : Q < 2 ^ 96) (p1 : a10 t = pL P) (p2 : a11 t = pH P) (q1 : a10 u = pL Q) (q2 : a11 u = pH Q) :
    q_X11_join (nI s) (nI t) (nI u) 0 a10 a11 w x y z v v' = some (.inr (dgI (P ^^^ Q)), (vp_updL a10 s (pL (P ^^^ Q)), vp_updL a11 s (pH (P ^^^ Q)), pL P, pH P, pL Q, pH Q, pL (P ^^^ Q), pH (P ^^^ Q))) := by
  have e : t_X4_becomeSum (pL P) (pH P) (pL Q) (pH Q) = (pL (P ^^^ Q), pH (P ^^^ Q)) := by
    unfold t_X4_becomeSum t_X4_become
    rw [pL_xor, pH_xor]
  unfold q_X11_join
  rw [rsT hs]
  simp only [xbnd, takeT ht hu, if_true, p1, p2, q1, q2, e, putS hs (Nat.xor_lt_two_pow hP hQ), Option.bind_some]
theorem joinCp {s t u P Q : Nat} {a10 a11 : Nat → Int64} {w x y z v v' : Int64} (hs : s < 8) (ht : t < 8) (hu : u < 8) (hP : P < 2 ^ 96) (hQ : Q < 2 ^ 96) (p1 : a10 t = pL P) (p2 : a11 t = pH P) (q1 : a10 u = pL Q) (q2 : a11 u = pH Q) (h : P = 0 ∨ Q = 0 ∨ P.log2 + Q.log2 ≤ 95) :
    q_X11_join (nI s) (nI t) (nI u) 1 a10 a11 w x y z v v' = some (.inr (dgI (cm P Q 96)), (vp_updL a10 s (pL (cm P Q 96)), vp_updL a11 s (pH (cm P Q 96)), pL P, pH P, pL Q, pH Q, pL (cm P Q 96), pH (cm P Q 96))) := by
  have hf := fitsQ hP hQ h
  have hc := cm_lt hf 96 (Nat.le_refl _)
  unfold q_X11_join
  rw [rsT hs]
  simp only [xbnd, takeT ht hu, ite1e, p1, p2, q1, q2, degC hP, degC hQ, Option.bind_some, dgN hP, dgN hQ, prodC hP hf, putS hs hc]
  by_cases c1 : P = 0
  · rw [if_pos c1]
  · by_cases c2 : Q = 0
    · rw [if_neg c1, if_pos c2]
    · rw [if_neg c1, if_neg c2, if_pos ((dg_add c1 c2 hP hQ).1.mpr (by omega))]
theorem joinCf {s t u P Q : Nat} {a10 a11 : Nat → Int64} {w x y z v v' : Int64} (hs : s < 8) (ht : t < 8) (hu : u < 8) (hP : P < 2 ^ 96) (hQ : Q < 2 ^ 96) (p1 : a10 t = pL P) (p2 : a11 t = pH P) (q1 : a10 u = pL Q) (q2 : a11 u = pH Q) (h : ¬ (P = 0 ∨ Q = 0 ∨ P.log2 + Q.log2 ≤ 95)) :
    q_X11_join (nI s) (nI t) (nI u) 1 a10 a11 w x y z v v' = some (.inl 1, (a10, a11, pL P, pH P, pL Q, pH Q, v, v')) := by
  have c1 : P ≠ 0 := by omega
  have c2 : Q ≠ 0 := by omega
  unfold q_X11_join
  rw [rsT hs]
  simp only [xbnd, takeT ht hu, ite1e, p1, p2, q1, q2, degC hP, degC hQ, Option.bind_some, dgN hP, dgN hQ]
  rw [if_neg c1, if_neg c2, if_neg (fun e => h (Or.inr (Or.inr ((dg_add c1 c2 hP hQ).1.mp e))))]

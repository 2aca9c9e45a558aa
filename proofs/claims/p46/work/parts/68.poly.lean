/-! Polynomials as numbers below 2 to the power of 96: in two halves, or bit by bit. -/
def pL (P : Nat) : Int64 := lN (P % 2 ^ 64)
def pH (P : Nat) : Int64 := lN (P / 2 ^ 64)
def dgI (P : Nat) : Int32 := if P = 0 then -1 else nI P.log2
theorem lg01 {b : Nat} (h : b < 2) : lg_cmp (lN b) 0 = 0 ↔ b = 0 := by
  rw [lg_eq, show (0 : Int64) = lN 0 from rfl, lN_inj (by omega) (by omega)]
theorem hasP {P k : Nat} (hP : P < 2 ^ 96) (hk : k ≤ 95) : t_X4_hasPower (nI k) (pL P) (pH P) = if P / 2 ^ k % 2 = 1 then 1 else 0 := by
  have e : (if (64 : Int32) ≤ nI k then xul (pH P) (nI k - 64) else xul (pL P) (nI k)) &&& 1 = lN (P / 2 ^ k % 2) := by
    by_cases c : 64 ≤ k
    · rw [if_pos (show (64 : Int32) ≤ nI k from nI_le (a := 64) c (by omega)), show nI k - 64 = nI (k - 64) from nI_sub (b := 64) c]
      unfold pH
      rw [lN_xul (by omega) (by omega), show (1 : Int64) = lN 1 from rfl, lN_and, and1, Nat.div_div_eq_div_mul, ← Nat.pow_add, show 64 + (k - 64) = k by omega]
    · rw [if_neg (show ¬ (64 : Int32) ≤ nI k from nI_ge (b := 64) (by omega) (by decide))]
      unfold pL
      rw [lN_xul (by omega) (by omega), show (1 : Int64) = lN 1 from rfl, lN_and, and1, tb_div, tb_div, Nat.testBit_mod_two_pow, decide_eq_true (show k < 64 by omega), Bool.true_and]
  unfold t_X4_hasPower
  rw [e]
  have h2 := Nat.mod_lt (P / 2 ^ k) (show 0 < 2 by omega)
  by_cases c : P / 2 ^ k % 2 = 1
  · rw [if_pos c, if_neg (by rw [lg01 h2]; omega)]
  · rw [if_neg c, if_pos (by rw [lg01 h2]; omega)]
theorem bit_ge {P k : Nat} (h : P < 2 ^ (k + 1)) : P / 2 ^ k % 2 = 1 ↔ 2 ^ k ≤ P := by
  have h2 : P / 2 ^ k < 2 := Nat.div_lt_of_lt_mul (by rw [Nat.pow_succ] at h; exact h)
  rw [Nat.mod_eq_of_lt h2]
  have := Nat.le_div_iff_mul_le (Nat.two_pow_pos k) (x := 1) (y := P)
  omega
theorem log_of {P k : Nat} (h1 : 2 ^ k ≤ P) (h2 : P < 2 ^ (k + 1)) : dgI P = nI k := by
  have h0 : P ≠ 0 := by have := Nat.two_pow_pos k; omega
  unfold dgI
  rw [if_neg h0, (Nat.log2_eq_iff h0).mpr ⟨h1, h2⟩]
theorem degC {P : Nat} (hP : P < 2 ^ 96) : q_X4_degree (pL P) (pH P) = some (dgI P) := by
  obtain ⟨r, hr, g⟩ := loop_inv (F := fun k (x : Int32) => q_X4_degree_L3 (pL P) (pH P) k x)
    (fun j x => x = (if j ≤ 95 then nI (95 - j) else -1) ∧ P < 2 ^ (96 - j))
    (fun r => (xlp (some r) (fun _ => some (-1 : Int32)) (fun y => some y)) = some (dgI P)) 96
    (fun k x h => by
      obtain ⟨rfl, h⟩ := h
      refine ⟨_, by show q_X4_degree_L3 _ _ (k + 1) _ = _; rw [if_neg (by decide), q_X4_degree_L3, if_pos (by decide)], ?_⟩
      have : P = 0 := by omega
      subst this
      rfl)
    (fun k j x hj h => by
      obtain ⟨rfl, h⟩ := h
      rw [if_pos (show j ≤ 95 by omega)]
      show (∃ r, q_X4_degree_L3 _ _ (k + 1) (nI (95 - j)) = some r ∧ _) ∨ ∃ s', q_X4_degree_L3 _ _ (k + 1) (nI (95 - j)) = q_X4_degree_L3 _ _ k s' ∧ _
      rw [show 96 - j = (95 - j) + 1 by omega] at h
      rw [q_X4_degree_L3, if_neg (nI_pos (by omega)), hasP hP (by omega)]
      by_cases c : P / 2 ^ (95 - j) % 2 = 1
      · rw [if_pos c, if_neg (by decide)]
        refine Or.inl ⟨_, rfl, ?_⟩
        rw [log_of ((bit_ge h).mp c) h]
        rfl
      · rw [if_neg c, if_pos rfl]
        refine Or.inr ⟨_, rfl, ?_, ?_⟩
        · by_cases e : j + 1 ≤ 95
          · rw [if_pos e, nI_dec (by omega), show 95 - j - 1 = 95 - (j + 1) by omega]
          · rw [if_neg e, show 95 - j = 0 by omega]
            decide
        · rw [bit_ge h] at c
          rw [show 96 - (j + 1) = 95 - j by omega]
          omega)
    10000 0 (nI 95) ⟨rfl, hP⟩ (Nat.zero_le _) (by omega)
  unfold q_X4_degree
  have hr' : q_X4_degree_L3 (pL P) (pH P) 10000 95 = some r := hr
  rw [hr']
  exact g
theorem k96 : (96 : Int32) = nI 96 := rfl
theorem shelfT {s : Nat} (h : s < 8) : t_X11_hasShelf (nI s) = 1 := by
  unfold t_X11_hasShelf
  rw [if_neg (nI_pos (by omega)), if_neg (nI_ge h (by omega)), if_neg (nI_ge h (by omega))]
theorem shelfF {p : Int32} (h : p.toInt < 0 ∨ ((8 : Nat) : Int) ≤ p.toInt) : t_X11_hasShelf p = 0 := by
  unfold t_X11_hasShelf
  by_cases c : p < 0
  · rw [if_pos c]
  · rw [if_neg c]
    rw [ltI, i0] at c
    rw [if_pos (by rw [leI, nI_toInt (by omega)]; omega)]
theorem rsT {s : Nat} (h : s < 8) : q_X11_requireShelf (nI s) = some (.inr (), ()) := by
  unfold q_X11_requireShelf
  rw [shelfT h, ite10]
theorem rsF {p : Int32} (h : p.toInt < 0 ∨ ((8 : Nat) : Int) ≤ p.toInt) : q_X11_requireShelf p = some (.inl 2, ()) := by
  unfold q_X11_requireShelf
  rw [shelfF h, ite00]
theorem putS {s P : Nat} {a10 a11 : Nat → Int64} (hs : s < 8) (hP : P < 2 ^ 96) : q_X11_putOnShelf (nI s) a10 a11 (pL P) (pH P) = some (dgI P, vp_updL a10 s (pL P), vp_updL a11 s (pH P)) := by
  unfold q_X11_putOnShelf
  rw [shelfT hs, ite1e, if_pos (xinI hs (by omega)), if_pos (xinI hs (by omega)), degC hP, Option.bind_some, nI_clamp (by omega)]
theorem takeS {s : Nat} {a10 a11 : Nat → Int64} {x y : Int64} (hs : s < 8) : q_X11_takeFromShelf (nI s) a10 a11 x y = some (a10 s, a11 s) := by
  unfold q_X11_takeFromShelf t_X4_become
  rw [shelfT hs, ite1e, if_pos (xinI hs (by omega)), if_pos (xinI hs (by omega)), nI_clamp (by omega)]
/-- the laying of 96 coefficients -/
theorem layT {F : Nat → Int32 → (Nat → Int32) → Option (Int32 × (Nat → Int32))} {s : Nat} {v : Nat → Int32} {a53 : Nat → Int32}
    (h1 : ∀ f a, F (f + 1) (nI 96) a = some (nI 96, a)) (h2 : ∀ f k a, k < 96 → F (f + 1) (nI k) a = F f (nI (k + 1)) (upd a (96 * s + k) (v k))) :
    ∃ r : Int32 × (Nat → Int32), F 10000 (nI 0) a53 = some r ∧ (∀ k, k < 96 → r.2 (96 * s + k) = v k) ∧ ∀ t, (t < 96 * s ∨ 96 * s + 96 ≤ t) → r.2 t = a53 t := by
  obtain ⟨r, hr, g1, g2⟩ := loop_inv (F := fun k (x : Int32 × (Nat → Int32)) => F k x.1 x.2)
    (fun i x => x.1 = nI i ∧ (∀ k, k < i → x.2 (96 * s + k) = v k) ∧ ∀ t, (t < 96 * s ∨ 96 * s + 96 ≤ t) → x.2 t = a53 t)
    (fun r => (∀ k, k < 96 → r.2 (96 * s + k) = v k) ∧ ∀ t, (t < 96 * s ∨ 96 * s + 96 ≤ t) → r.2 t = a53 t) 96
    (fun f x h => by
      obtain ⟨c, a⟩ := x
      obtain ⟨e1, e2, e3⟩ := h
      have e1 : c = nI 96 := e1
      subst e1
      exact ⟨_, h1 f a, e2, e3⟩)
    (fun f i x hi h => by
      obtain ⟨c, a⟩ := x
      obtain ⟨e1, e2, e3⟩ := h
      have e1 : c = nI i := e1
      subst e1
      refine Or.inr ⟨(nI (i + 1), upd a (96 * s + i) (v i)), h2 f i a hi, rfl, ?_, ?_⟩
      · intro k hk
        show upd a (96 * s + i) (v i) (96 * s + k) = _
        by_cases e : k = i
        · subst e; exact upd_eq
        · rw [upd_ne (by omega)]; exact e2 k (by omega)
      · intro t ht
        show upd a (96 * s + i) (v i) t = _
        rw [upd_ne (by omega)]; exact e3 t ht)
    10000 0 (nI 0, a53) ⟨rfl, fun k hk => absurd hk (Nat.not_lt_zero k), fun _ _ => rfl⟩ (Nat.zero_le _) (by omega)
  exact ⟨r, hr, g1, g2⟩
theorem shl32 {b : Nat} (hb : b < 4294967296) : (nI b).toInt64 <<< ((32 : Int32).toInt64 &&& 63) = lN (b * 2 ^ 32) := by
  obtain ⟨c, hc⟩ : ∃ c, (nI b).toInt64 = lN (b + c * 2 ^ 32) := by
    obtain ⟨d, hd, e⟩ := lN_any (nI b).toInt64
    refine ⟨if b < 2147483648 then 0 else 4294967295, ?_⟩
    apply Int64.toBitVec_inj.mp
    rw [Int32.toBitVec_toInt64, nI_bv, lN_bv]
    apply BitVec.eq_of_toNat_eq
    rw [BitVec.toNat_ofNat, BitVec.toNat_signExtend, BitVec.toNat_setWidth, BitVec.toNat_ofNat, Nat.mod_eq_of_lt (show b < 2 ^ 32 from hb), Nat.mod_eq_of_lt (show b < 2 ^ 64 by omega), BitVec.msb_eq_decide, BitVec.toNat_ofNat, Nat.mod_eq_of_lt (show b < 2 ^ 32 from hb)]
    by_cases h : b < 2147483648
    · rw [if_pos h, decide_eq_false (show ¬ 2 ^ (32 - 1) ≤ b by omega)]
      simp
      omega
    · rw [if_neg h, decide_eq_true (show 2 ^ (32 - 1) ≤ b by omega)]
      simp
      omega
  rw [hc]
  show lN _ <<< ((nI 32).toInt64 &&& 63) = _
  rw [lN_shl _ (by omega)]
  apply lN_of_bv
  rw [lN_bv]
  apply BitVec.eq_of_toNat_eq
  rw [BitVec.toNat_ofNat, BitVec.toNat_ofNat]
  omega
theorem or_add {a b i : Nat} (h : a < 2 ^ i) : a ||| b * 2 ^ i = 2 ^ i * b + a := by
  rw [Nat.two_pow_add_eq_or_of_lt h, Nat.mul_comm, Nat.or_comm]

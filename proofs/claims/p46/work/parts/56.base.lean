/-! Numbers: ints and longs that count, told by natural numbers; loops. -/
theorem k0 : (0 : Int32) = nI 0 := rfl
theorem k1 : (1 : Int32) = nI 1 := rfl
theorem k2 : (2 : Int32) = nI 2 := rfl
theorem k3 : (3 : Int32) = nI 3 := rfl
theorem k4 : (4 : Int32) = nI 4 := rfl
theorem k5 : (5 : Int32) = nI 5 := rfl
theorem k7 : (7 : Int32) = nI 7 := rfl
theorem k8 : (8 : Int32) = nI 8 := rfl
theorem k9 : (9 : Int32) = nI 9 := rfl
theorem k10 : (10 : Int32) = nI 10 := rfl
theorem k64 : (64 : Int32) = nI 64 := rfl
theorem k65 : (65 : Int32) = nI 65 := rfl
theorem kI (k : Nat) : (OfNat.ofNat k : Int32) = nI k := rfl
theorem kL (k : Nat) : (OfNat.ofNat k : Int64) = lN k := rfl
theorem nI_min' {a b : Nat} (ha : a < 2147483648) (hb : b < 2147483648) : (if nI b < nI a then nI b else nI a) = nI (min a b) := by
  by_cases h : b < a
  · rw [if_pos ((nI_ltI hb ha).mpr h), Nat.min_eq_right (by omega)]
  · rw [if_neg (fun q => h ((nI_ltI hb ha).mp q)), Nat.min_eq_left (by omega)]
theorem nI_pred' {a : Nat} (h : 0 < a) : nI a - 1 = nI (a - 1) := by
  obtain ⟨k, rfl⟩ : ∃ k, a = k + 1 := ⟨a - 1, by omega⟩
  exact nI_pred k
theorem nI_sub {a b : Nat} (h : b ≤ a) : nI a - nI b = nI (a - b) := by
  obtain ⟨c, rfl⟩ : ∃ c, a = b + c := ⟨a - b, by omega⟩
  rw [← nI_add, show b + c - b = c by omega]
  apply Int32.toBitVec_inj.mp
  simp only [Int32.toBitVec_sub, Int32.toBitVec_add]
  generalize (nI b).toBitVec = x
  generalize (nI c).toBitVec = y
  apply BitVec.eq_of_toNat_eq
  simp only [BitVec.toNat_sub, BitVec.toNat_add]
  have := x.isLt
  have := y.isLt
  omega
theorem nI_dec {a : Nat} (h : 0 < a) : nI a + (-1) = nI (a - 1) := by
  rw [show (-1 : Int32) = nI 4294967295 by decide, nI_add]
  obtain ⟨k, rfl⟩ : ∃ k, a = k + 1 := ⟨a - 1, by omega⟩
  apply Int32.toBitVec_inj.mp
  apply BitVec.eq_of_toNat_eq
  show (BitVec.ofNat 32 _).toNat = (BitVec.ofNat 32 _).toNat
  rw [BitVec.toNat_ofNat, BitVec.toNat_ofNat]
  omega
theorem nI_mul (a b : Nat) : nI a * nI b = nI (a * b) := (Int32.ofNat_mul a b).symm
theorem nI_div {a b : Nat} (ha : a < 2147483648) (h0 : 0 < b) (hb : b < 2147483648) : nI a / nI b = nI (a / b) := by
  apply Int32.toInt_inj.mp
  have hq : a / b ≤ a := Nat.div_le_self a b
  rw [Int32.toInt_div, nI_toInt (by omega), nI_toInt (by omega), nI_toInt (by omega)]
  rw [← Int.ofNat_tdiv]
  have e0 : (0 : Int) ≤ ((a / b : Nat) : Int) := Int.natCast_nonneg _
  have e : ((a / b : Nat) : Int) ≤ (a : Int) := by exact_mod_cast hq
  exact Int.bmod_eq_of_le (by omega) (by omega)
theorem nI_mod {a b : Nat} (ha : a < 2147483648) (h0 : 0 < b) (hb : b < 2147483648) : nI a - nI a / nI b * nI b = nI (a % b) := by
  have h1 := Nat.div_mul_le_self a b
  have h2 := Nat.div_add_mod a b
  rw [nI_div ha h0 hb, nI_mul, nI_sub h1]
  congr 1
  rw [Nat.mul_comm] at h2
  omega
theorem xinI {k m : Nat} (h : k < m) (hm : m < 2147483648) : xin (nI k) m = true := (xin_nI' h hm).1
theorem ne_of_nI {a b : Nat} (h : a ≠ b) (ha : a < 2147483648) (hb : b < 2147483648) : ¬ nI a = nI b := fun e => h ((nI_eq ha hb).mp e)
/-- an int is a place below n, or not -/
theorem cls (p : Int32) {n : Nat} (hn : n < 2147483648) : (∃ k, k < n ∧ p = nI k) ∨ (p.toInt < 0 ∨ (n : Int) ≤ p.toInt) := by
  by_cases h : p.toInt < 0 ∨ (n : Int) ≤ p.toInt
  · exact Or.inr h
  · refine Or.inl ⟨p.toInt.toNat, by omega, ?_⟩
    apply Int32.toInt_inj.mp
    rw [nI_toInt (by omega)]
    omega
theorem ltI {a b : Int32} : a < b ↔ a.toInt < b.toInt := Int32.lt_iff_toInt_lt
theorem leI {a b : Int32} : a ≤ b ↔ a.toInt ≤ b.toInt := Int32.le_iff_toInt_le
theorem i0 : (0 : Int32).toInt = 0 := rfl
theorem lgs (x : Int64) : lg_cmp x x = 0 := by simp [lg_cmp]
theorem lg_eq {x y : Int64} : lg_cmp x y = 0 ↔ x = y := by
  constructor
  · intro h
    unfold lg_cmp at h
    split at h
    · exact absurd h (by decide)
    · split at h
      · rename_i h1 h2; exact h2
      · exact absurd h (by decide)
  · rintro rfl
    exact lgs x
theorem tl (p : Int32) : p.toInt64.toInt = p.toInt := Int32.toInt_toInt64 p
theorem hasT {k n : Nat} (h : k < n) (hn : n < 2147483648) : t_X5_has (nI k) (nI n) = 1 := by
  unfold t_X5_has
  rw [if_neg (nI_pos (by omega)), if_neg (nI_ge h hn)]
theorem hasF {p : Int32} {n : Nat} (h : p.toInt < 0 ∨ (n : Int) ≤ p.toInt) (hn : n < 2147483648) : t_X5_has p (nI n) = 0 := by
  unfold t_X5_has
  by_cases h0 : p < 0
  · rw [if_pos h0]
  · rw [if_neg h0]
    rw [ltI, i0] at h0
    rw [if_pos (by rw [leI, nI_toInt hn]; omega)]
theorem atI {k m : Nat} {f : Nat → Int32} (h : k < m) (hm : m < 2147483648) : t_X5_at (nI k) m f = f k := by
  unfold t_X5_at
  rw [if_neg (nI_pos (by omega)), if_neg (nI_ge h hm), nI_clamp (by omega)]
theorem chI {k m : Nat} {f : Nat → Int32} {v : Int32} (h : k < m) (hm : m < 2147483648) : t_X5_change (nI k) v m f = upd f k v := by
  unfold t_X5_change
  rw [if_neg (nI_pos (by omega)), if_neg (nI_ge h hm), nI_clamp (by omega)]
/-- a loop that counts up to N, or ends before -/
theorem loop_inv {α σ : Type} {F : Nat → σ → Option α} (I : Nat → σ → Prop) (R : α → Prop) (N : Nat)
    (hstop : ∀ n s, I N s → ∃ r, F (n + 1) s = some r ∧ R r)
    (hstep : ∀ n i s, i < N → I i s → (∃ r, F (n + 1) s = some r ∧ R r) ∨ (∃ s', F (n + 1) s = F n s' ∧ I (i + 1) s')) :
    ∀ n i s, I i s → i ≤ N → N - i < n → ∃ r, F n s = some r ∧ R r := by
  intro n
  induction n with
  | zero => intro i s _ _ h; omega
  | succ n ih =>
    intro i s hI hi hn
    by_cases h : i = N
    · subst h
      exact hstop n s hI
    · rcases hstep n i s (by omega) hI with h1 | ⟨s', h1, h2⟩
      · exact h1
      · rw [h1]
        exact ih (i + 1) s' h2 (by omega) (by omega)
theorem upd_eq {f : Nat → Int32} {k : Nat} {v : Int32} : upd f k v k = v := if_pos rfl
theorem upd_ne {f : Nat → Int32} {k j : Nat} {v : Int32} (h : j ≠ k) : upd f k v j = f j := if_neg h
theorem updL_eq {f : Nat → Int64} {k : Nat} {v : Int64} : vp_updL f k v k = v := if_pos rfl
theorem updL_ne {f : Nat → Int64} {k j : Nat} {v : Int64} (h : j ≠ k) : vp_updL f k v j = f j := if_neg h
theorem c0 : (0 : Int32).toNatClampNeg = 0 := rfl
theorem ite10 {α : Type} {a b : α} : (if ¬ (1 : Int32) = 0 then a else b) = a := if_pos (by decide)
theorem ite00 {α : Type} {a b : α} : (if ¬ (0 : Int32) = 0 then a else b) = b := if_neg (by decide)
theorem ite1e {α : Type} {a b : α} : (if (1 : Int32) = 0 then a else b) = b := if_neg (by decide)
theorem ite0e {α : Type} {a b : α} : (if (0 : Int32) = 0 then a else b) = a := if_pos rfl

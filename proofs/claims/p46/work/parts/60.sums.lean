/-! Sums of the row by 255 and by 65521; the typed digits. -/
def sF (B : Nat → Nat) : Nat → Nat
  | 0 => 0
  | k + 1 => sF B k + B k
def sG (a : Nat) (B : Nat → Nat) : Nat → Nat
  | 0 => 0
  | k + 1 => sG a B k + (a + sF B (k + 1))
theorem sF_le {B : Nat → Nat} {n : Nat} (h : ∀ k, k < n → B k < 256) : ∀ k, k ≤ n → sF B k ≤ 255 * k := by
  intro k
  induction k with
  | zero => intro _; exact Nat.le_refl _
  | succ k ih => intro hk; have := ih (by omega); have := h k (by omega); show sF B k + B k ≤ _; omega
theorem sG_le {a : Nat} {B : Nat → Nat} {n : Nat} (ha : a ≤ 1) (hn : n ≤ 64) (h : ∀ k, k < n → B k < 256) : ∀ k, k ≤ n → sG a B k ≤ 16321 * k := by
  intro k
  induction k with
  | zero => intro _; exact Nat.le_refl _
  | succ k ih => intro hk; have := ih (by omega); have := sF_le h (k + 1) hk; show sG a B k + (a + sF B (k + 1)) ≤ _; omega
theorem sumsC {m n s : Nat} {B : Nat → Nat} {a2 : Nat → Int32} {F : Nat → Int32 → Int32 → Int32 → Option (Int32 × Int32 × Int32)} (hm : m < 100000) (h1 : 1 < m) (hn : n ≤ 64) (hB : ∀ k, k < n → B k < 256 ∧ a2 k = nI (B k))
    (hs : ∀ f l1 l2, F (f + 1) l1 l2 (nI n) = some (l1, l2, nI n))
    (ht : ∀ f i l1 l2, i < n → F (f + 1) (nI l1) (nI l2) (nI i) = F f ((nI l1 + a2 i) - (nI l1 + a2 i) / nI m * nI m) ((nI l2 + ((nI l1 + a2 i) - (nI l1 + a2 i) / nI m * nI m)) - (nI l2 + ((nI l1 + a2 i) - (nI l1 + a2 i) / nI m * nI m)) / nI m * nI m) (nI (i + 1))) (hsm : s ≤ 1) :
    ∃ r : Int32 × Int32 × Int32, F 10000 (nI s) (nI 0) (nI 0) = some r ∧ r.1 = nI ((s + sF B n) % m) ∧ r.2.1 = nI (sG s B n % m) := by
  have hs0 : (s + sF B 0) % m = s := Nat.mod_eq_of_lt (by show s + 0 < m; omega)
  obtain ⟨r, hr, g1, g2⟩ := loop_inv (F := fun k (x : Int32 × Int32 × Int32) => F k x.1 x.2.1 x.2.2)
    (fun i x => x.1 = nI ((s + sF B i) % m) ∧ x.2.1 = nI (sG s B i % m) ∧ x.2.2 = nI i)
    (fun r => r.1 = nI ((s + sF B n) % m) ∧ r.2.1 = nI (sG s B n % m)) n
    (fun k x h => by
      obtain ⟨l, c, v⟩ := x
      obtain ⟨h1, h2, h3⟩ := h
      have h3 : v = nI n := h3
      subst h3
      exact ⟨_, hs k l c, h1, h2⟩)
    (fun k i x hi h => by
      obtain ⟨l, c, v⟩ := x
      obtain ⟨e1, e2, e3⟩ := h
      have e1 : l = nI ((s + sF B i) % m) := e1
      have e2 : c = nI (sG s B i % m) := e2
      have e3 : v = nI i := e3
      subst e1; subst e2; subst e3
      obtain ⟨b1, b2⟩ := hB i hi
      have q1 : (s + sF B i) % m < m := Nat.mod_lt _ (by omega)
      have q2 : sG s B i % m < m := Nat.mod_lt _ (by omega)
      refine Or.inr ⟨(_, _, _), ht k i _ _ hi, ?_, ?_, rfl⟩
      · show (nI _ + a2 i) - (nI _ + a2 i) / nI m * nI m = _
        rw [b2, nI_add, nI_mod (by omega) (by omega) (by omega)]
        congr 1
        show ((s + sF B i) % m + B i) % m = (s + (sF B i + B i)) % m
        rw [Nat.mod_add_mod, Nat.add_assoc]
      · have e : (nI ((s + sF B i) % m) + a2 i) - (nI ((s + sF B i) % m) + a2 i) / nI m * nI m = nI ((s + sF B (i + 1)) % m) := by
          rw [b2, nI_add, nI_mod (by omega) (by omega) (by omega)]
          congr 1
          show ((s + sF B i) % m + B i) % m = (s + (sF B i + B i)) % m
          rw [Nat.mod_add_mod, Nat.add_assoc]
        have q3 : (s + sF B (i + 1)) % m < m := Nat.mod_lt _ (by omega)
        rw [e]
        show (nI _ + nI _) - (nI _ + nI _) / nI m * nI m = _
        rw [nI_add, nI_mod (by omega) (by omega) (by omega)]
        congr 1
        show (sG s B i % m + (s + sF B (i + 1)) % m) % m = (sG s B i + (s + sF B (i + 1))) % m
        rw [← Nat.add_mod])
    10000 0 (nI s, nI 0, nI 0) ⟨by rw [hs0], by rw [show sG s B 0 = 0 from rfl, Nat.zero_mod], rfl⟩ (Nat.zero_le _) (by omega)
  exact ⟨r, hr, g1, g2⟩
theorem lN_mod {a b : Nat} (ha : a < 2147483648) (h0 : 0 < b) (hb : b < 2147483648) : lN a - lN a / lN b * lN b = lN (a % b) := by
  have h1 := Nat.div_mul_le_self a b
  have h2 := Nat.div_add_mod a b
  have hq : a / b ≤ a := Nat.div_le_self a b
  have e : lN a / lN b = lN (a / b) := by
    apply Int64.toInt_inj.mp
    rw [Int64.toInt_div, lN_toInt (by omega), lN_toInt (by omega), lN_toInt (by omega)]
    rw [← Int.ofNat_tdiv]
    have e0 : (0 : Int) ≤ ((a / b : Nat) : Int) := Int.natCast_nonneg _
    have e : ((a / b : Nat) : Int) ≤ (a : Int) := by exact_mod_cast hq
    exact Int.bmod_eq_of_le (by omega) (by omega)
  rw [e, lN_mul, lN_sub h1]
  congr 1
  rw [Nat.mul_comm] at h2
  omega

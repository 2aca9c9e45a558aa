/-! The calls ofKind, bits, shortest. -/
theorem numK {w p : Nat} (h : w ≤ 32) (hp : p < 2 ^ w) : t_X1_number (nI w) (nI p) = pL (2 ^ w + p) ∧ (0 : Int64) = pH (2 ^ w + p) ∧ 2 ^ w + p < 2 ^ 33 := by
  have hw := pow_le h
  have h33 : 2 ^ w + p < 2 ^ 33 := by omega
  refine ⟨?_, ?_, h33⟩
  · unfold t_X1_number pL
    rw [nI_mask (by omega), show (1 : Int64) = lN 1 from rfl, lN_shl 1 (by omega), Nat.one_mul, lN_or, Nat.mod_eq_of_lt (by omega)]
    congr 1
    have := Nat.two_pow_add_eq_or_of_lt hp 1
    rw [Nat.mul_one] at this
    exact this.symm
  · unfold pH
    rw [Nat.div_eq_of_lt (by omega)]
    rfl
theorem bitK {w p k : Nat} (hp : p < 2 ^ w) : (2 ^ w + p) / 2 ^ k % 2 = if k = w then 1 else if w ≤ k then 0 else p / 2 ^ k % 2 := by
  rw [tb_div, tb_div]
  have := Nat.testBit_two_pow_mul_add 1 hp k
  rw [Nat.mul_one] at this
  rw [this]
  by_cases c : k < w
  · rw [if_pos c, if_neg (by omega), if_neg (by omega)]
  · rw [if_neg c]
    by_cases e : k = w
    · subst e; rw [if_pos rfl, Nat.sub_self]; rfl
    · rw [if_neg e, if_pos (by omega), Nat.testBit_lt_two_pow (Nat.one_lt_two_pow (by omega))]
      rfl
theorem nI_m32 (a : Nat) : nI (a % 2 ^ 32) = nI a := nI_of_bv (by
  rw [nI_bv]
  apply BitVec.eq_of_toNat_eq
  rw [BitVec.toNat_ofNat, BitVec.toNat_ofNat, Nat.mod_mod])
theorem low_succ (Q i : Nat) : Q % 2 ^ i ||| (Q / 2 ^ i % 2) * 2 ^ i = Q % 2 ^ (i + 1) := by
  rw [or_add (Nat.mod_lt _ (Nat.two_pow_pos i)), Nat.mod_pow_succ, Nat.add_comm]
theorem partC {t P : Nat} (hP : P < 2 ^ 96) (ht : t < 3) : t_X4_part (nI t) (pL P) (pH P) = nI (P / 2 ^ (32 * t)) := by
  have m64 : ∀ k : Nat, nI (P % 2 ^ 64 / 2 ^ (32 * k)) = nI (P / 2 ^ (32 * k)) ∨ 1 < k := by
    intro k
    by_cases c : 1 < k
    · exact Or.inr c
    · left
      have hk : k = 0 ∨ k = 1 := by omega
      rw [← nI_m32 (P % 2 ^ 64 / 2 ^ (32 * k)), ← nI_m32 (P / 2 ^ (32 * k))]
      congr 1
      rcases hk with rfl | rfl
      · (simp; try omega)
      · (simp; try omega)
  unfold t_X4_part pL pH
  have ht3 : t = 0 ∨ t = 1 ∨ t = 2 := by omega
  rcases ht3 with rfl | rfl | rfl
  · rw [if_neg (show ¬ ¬ nI 0 = 0 from fun h => h rfl), lN_i]
    have := m64 0
    simp at this
    simp
    exact this
  · rw [if_pos (show ¬ nI 1 = 0 by decide), if_neg (show ¬ ¬ nI 1 = 1 from fun h => h rfl), show (32 : Int32) = nI 32 from rfl, lN_xul (by omega) (by omega), lN_i]
    rcases m64 1 with h | h
    · exact h
    · omega
  · rw [if_pos (show ¬ nI 2 = 0 by decide), if_pos (show ¬ nI 2 = 1 by decide), lN_i]
theorem sU_log {R : Nat → Nat} {f n v : Nat} (hn : 1 ≤ n) (h : sU R f n = some v) : 2 ^ n ≤ v ∧ v < 2 ^ (n + 1) := by
  have key : ∀ x, x < 2 ^ n → 2 ^ n ≤ 2 ^ n ||| x ||| 1 ∧ 2 ^ n ||| x ||| 1 < 2 ^ (n + 1) := by
    intro x hx
    have a1 : 2 ^ n < 2 ^ (n + 1) := Nat.pow_lt_pow_right (by decide) (by omega)
    have a2 : 2 ^ n ||| x < 2 ^ (n + 1) := Nat.or_lt_two_pow a1 (by omega)
    exact ⟨Nat.le_trans Nat.left_le_or Nat.left_le_or, Nat.or_lt_two_pow a2 (Nat.one_lt_two_pow (by omega))⟩
  unfold sU at h
  split at h
  · split at h
    · cases h; exact key 0 (Nat.two_pow_pos n)
    · cases h
  · split at h
    · split at h
      · cases h
      · rename_i j hj
        cases h
        have := s1_lt hj
        exact key _ (Nat.pow_lt_pow_right (by decide) (by omega))
    · split at h
      · cases h
      · rename_i j hj
        split at h
        · cases h
        · rename_i i hi
          cases h
          have h3 := fo_lt _ _ _ hj
          have h4 := s1_lt hi
          exact key _ (Nat.or_lt_two_pow (Nat.pow_lt_pow_right (by decide) (by omega)) (Nat.pow_lt_pow_right (by decide) (by omega)))

/-! Bits of ints and longs told by natural numbers. -/
theorem nI_bv (a : Nat) : (nI a).toBitVec = BitVec.ofNat 32 a := rfl
theorem lN_bv (a : Nat) : (lN a).toBitVec = BitVec.ofNat 64 a := rfl
theorem nI_of_bv {x : Int32} {a : Nat} (h : x.toBitVec = BitVec.ofNat 32 a) : x = nI a := Int32.toBitVec_inj.mp h
theorem lN_of_bv {x : Int64} {a : Nat} (h : x.toBitVec = BitVec.ofNat 64 a) : x = lN a := Int64.toBitVec_inj.mp h
theorem nI_inj {a b : Nat} (ha : a < 4294967296) (hb : b < 4294967296) : nI a = nI b ↔ a = b := by
  constructor
  · intro h
    have h2 : (BitVec.ofNat 32 a).toNat = (BitVec.ofNat 32 b).toNat := by rw [← nI_bv, ← nI_bv, h]
    rw [BitVec.toNat_ofNat, BitVec.toNat_ofNat, Nat.mod_eq_of_lt ha, Nat.mod_eq_of_lt hb] at h2
    exact h2
  · rintro rfl; rfl
theorem lN_inj {a b : Nat} (ha : a < 18446744073709551616) (hb : b < 18446744073709551616) : lN a = lN b ↔ a = b := by
  constructor
  · intro h
    have h2 : (BitVec.ofNat 64 a).toNat = (BitVec.ofNat 64 b).toNat := by rw [← lN_bv, ← lN_bv, h]
    rw [BitVec.toNat_ofNat, BitVec.toNat_ofNat, Nat.mod_eq_of_lt ha, Nat.mod_eq_of_lt hb] at h2
    exact h2
  · rintro rfl; rfl
theorem bv_xor (w a b : Nat) : BitVec.ofNat w a ^^^ BitVec.ofNat w b = BitVec.ofNat w (a ^^^ b) := by
  apply BitVec.eq_of_toNat_eq
  rw [BitVec.toNat_xor, BitVec.toNat_ofNat, BitVec.toNat_ofNat, BitVec.toNat_ofNat, Nat.xor_mod_two_pow]
theorem bv_and (w a b : Nat) : BitVec.ofNat w a &&& BitVec.ofNat w b = BitVec.ofNat w (a &&& b) := by
  apply BitVec.eq_of_toNat_eq
  rw [BitVec.toNat_and, BitVec.toNat_ofNat, BitVec.toNat_ofNat, BitVec.toNat_ofNat, Nat.and_mod_two_pow]
theorem bv_or (w a b : Nat) : BitVec.ofNat w a ||| BitVec.ofNat w b = BitVec.ofNat w (a ||| b) := by
  apply BitVec.eq_of_toNat_eq
  rw [BitVec.toNat_or, BitVec.toNat_ofNat, BitVec.toNat_ofNat, BitVec.toNat_ofNat, Nat.or_mod_two_pow]
theorem nI_xor (a b : Nat) : nI a ^^^ nI b = nI (a ^^^ b) := nI_of_bv (by rw [Int32.toBitVec_xor, nI_bv, nI_bv, bv_xor])
theorem nI_and (a b : Nat) : nI a &&& nI b = nI (a &&& b) := nI_of_bv (by rw [Int32.toBitVec_and, nI_bv, nI_bv, bv_and])
theorem nI_or (a b : Nat) : nI a ||| nI b = nI (a ||| b) := nI_of_bv (by rw [Int32.toBitVec_or, nI_bv, nI_bv, bv_or])
theorem lN_xor (a b : Nat) : lN a ^^^ lN b = lN (a ^^^ b) := lN_of_bv (by rw [Int64.toBitVec_xor, lN_bv, lN_bv, bv_xor])
theorem lN_and (a b : Nat) : lN a &&& lN b = lN (a &&& b) := lN_of_bv (by rw [Int64.toBitVec_and, lN_bv, lN_bv, bv_and])
theorem lN_or (a b : Nat) : lN a ||| lN b = lN (a ||| b) := lN_of_bv (by rw [Int64.toBitVec_or, lN_bv, lN_bv, bv_or])
theorem sm32 : ∀ k, k < 32 → (BitVec.ofNat 32 k &&& 31#32).smod 32#32 = BitVec.ofNat 32 k := by decide +kernel
theorem sm64 : ∀ k, k < 64 → (BitVec.ofNat 64 k &&& 63#64).smod 64#64 = BitVec.ofNat 64 k := by decide +kernel
theorem um32 : ∀ k, k < 32 → (BitVec.ofNat 32 k &&& 31#32) % 32#32 = BitVec.ofNat 32 k := by decide +kernel
theorem um64 : ∀ k, k < 64 → (BitVec.ofNat 64 k &&& 63#64) % 64#64 = BitVec.ofNat 64 k := by decide +kernel
theorem bv_shl (w a k : Nat) (hk : k < 2 ^ w) : BitVec.ofNat w a <<< BitVec.ofNat w k = BitVec.ofNat w (a * 2 ^ k) := by
  apply BitVec.eq_of_toNat_eq
  rw [BitVec.shiftLeft_eq', BitVec.toNat_shiftLeft, BitVec.toNat_ofNat, BitVec.toNat_ofNat, BitVec.toNat_ofNat, Nat.mod_eq_of_lt hk, Nat.shiftLeft_eq, Nat.mod_mul_mod]
theorem bv_shr (w a k : Nat) (hk : k < 2 ^ w) (ha : a < 2 ^ w) : BitVec.ofNat w a >>> BitVec.ofNat w k = BitVec.ofNat w (a / 2 ^ k) := by
  apply BitVec.eq_of_toNat_eq
  rw [BitVec.ushiftRight_eq', BitVec.toNat_ushiftRight, BitVec.toNat_ofNat, BitVec.toNat_ofNat, BitVec.toNat_ofNat, Nat.mod_eq_of_lt hk, Nat.mod_eq_of_lt ha, Nat.shiftRight_eq_div_pow, Nat.mod_eq_of_lt (Nat.lt_of_le_of_lt (Nat.div_le_self _ _) ha)]
theorem nI_shl (a : Nat) {k : Nat} (hk : k < 32) : nI a <<< (nI k &&& 31) = nI (a * 2 ^ k) := nI_of_bv (by
  rw [Int32.toBitVec_shiftLeft, Int32.toBitVec_and, nI_bv, nI_bv]
  show _ <<< (BitVec.ofNat 32 k &&& 31#32).smod 32#32 = _
  rw [sm32 k hk, bv_shl 32 a k (by omega)])
theorem nI_xus {a k : Nat} (ha : a < 4294967296) (hk : k < 32) : xus (nI a) (nI k) = nI (a / 2 ^ k) := nI_of_bv (by
  show ((nI a).toUInt32 >>> ((nI k).toUInt32 &&& Int32.toUInt32 31)).toBitVec = _
  rw [UInt32.toBitVec_shiftRight, UInt32.toBitVec_and]
  show BitVec.ofNat 32 a >>> ((BitVec.ofNat 32 k &&& 31#32) % 32#32) = _
  rw [um32 k hk, bv_shr 32 a k (by omega) ha])
theorem nI_t64 {k : Nat} (hk : k < 64) : (nI k).toInt64 = lN k := nI_l (by omega)
theorem lN_shl (a : Nat) {k : Nat} (hk : k < 64) : lN a <<< ((nI k).toInt64 &&& 63) = lN (a * 2 ^ k) := lN_of_bv (by
  rw [nI_t64 hk, Int64.toBitVec_shiftLeft, Int64.toBitVec_and, lN_bv, lN_bv]
  show _ <<< (BitVec.ofNat 64 k &&& 63#64).smod 64#64 = _
  rw [sm64 k hk, bv_shl 64 a k (by omega)])
theorem lN_xul {a k : Nat} (ha : a < 18446744073709551616) (hk : k < 64) : xul (lN a) (nI k) = lN (a / 2 ^ k) := lN_of_bv (by
  show ((lN a).toUInt64 >>> ((nI k).toInt64.toUInt64 &&& Int64.toUInt64 63)).toBitVec = _
  rw [nI_t64 hk, UInt64.toBitVec_shiftRight, UInt64.toBitVec_and]
  show BitVec.ofNat 64 a >>> ((BitVec.ofNat 64 k &&& 63#64) % 64#64) = _
  rw [um64 k hk, bv_shr 64 a k (by omega) ha])
theorem nI_mask {a : Nat} (ha : a < 4294967296) : (nI a).toInt64 &&& 4294967295 = lN a := lN_of_bv (by
  rw [Int64.toBitVec_and, Int32.toBitVec_toInt64, nI_bv]
  apply BitVec.eq_of_toNat_eq
  rw [BitVec.toNat_and, BitVec.toNat_ofNat, Nat.mod_eq_of_lt (show a < 2 ^ 64 by omega)]
  show _ &&& (2 ^ 32 - 1) = _
  rw [Nat.and_two_pow_sub_one_eq_mod, BitVec.toNat_signExtend, BitVec.toNat_setWidth, BitVec.toNat_ofNat, Nat.mod_eq_of_lt (show a < 2 ^ 32 from ha), Nat.mod_eq_of_lt (show a < 2 ^ 64 by omega)]
  split <;> omega)
theorem nI_any (x : Int32) : ∃ a, a < 4294967296 ∧ x = nI a := ⟨x.toBitVec.toNat, x.toBitVec.isLt, nI_of_bv (by rw [BitVec.ofNat_toNat, BitVec.setWidth_eq])⟩
theorem lN_any (x : Int64) : ∃ a, a < 18446744073709551616 ∧ x = lN a := ⟨x.toBitVec.toNat, x.toBitVec.isLt, lN_of_bv (by rw [BitVec.ofNat_toNat, BitVec.setWidth_eq])⟩
theorem and1 (a : Nat) : a &&& 1 = a % 2 := by
  have := Nat.and_two_pow_sub_one_eq_mod a 1
  exact this
theorem tb_div (a k : Nat) : a / 2 ^ k % 2 = (a.testBit k).toNat := by rw [Nat.toNat_testBit]
/-- times z, by the polynomial p of the width w -/
def kT (w p r : Nat) : Nat := if r / 2 ^ (w - 1) % 2 = 1 then (2 * r % 2 ^ w) ^^^ p else 2 * r % 2 ^ w
theorem kT_lt {w p r : Nat} (hp : p < 2 ^ w) : kT w p r < 2 ^ w := by
  unfold kT
  have := Nat.mod_lt (2 * r) (Nat.two_pow_pos w)
  split
  · exact Nat.xor_lt_two_pow this hp
  · exact this
theorem pow_le {w : Nat} (h : w ≤ 32) : 2 ^ w ≤ 4294967296 := Nat.pow_le_pow_right (by decide) h
theorem maskI {w : Nat} (h1 : 1 ≤ w) (h : w ≤ 32) : xus (-1) (32 - nI w) = nI (2 ^ w - 1) := by
  rw [show (32 : Int32) - nI w = nI (32 - w) from nI_sub (a := 32) h, show (-1 : Int32) = nI 4294967295 by decide]
  rw [nI_xus (by omega) (by omega)]
  congr 1
  have e : 4294967296 = 2 ^ w * 2 ^ (32 - w) := by rw [← Nat.pow_add, show w + (32 - w) = 32 by omega]
  have hp := Nat.two_pow_pos (32 - w)
  have hq := Nat.two_pow_pos w
  apply Nat.div_eq_of_lt_le
  · rw [Nat.sub_mul, ← e]; omega
  · rw [Nat.sub_add_cancel hq, ← e]; omega
theorem timesZI {w p r : Nat} (h1 : 1 ≤ w) (h : w ≤ 32) (hr : r < 2 ^ w) : t_X1_timesZ (nI r) (nI w) (nI p) = nI (kT w p r) := by
  have hw := pow_le h
  unfold t_X1_timesZ kT
  rw [maskI h1 h, nI_pred' h1, nI_xus (by omega) (by omega), k1, nI_and, and1, nI_shl r (k := 1) (by omega), nI_and, Nat.and_two_pow_sub_one_eq_mod, Nat.pow_one, Nat.mul_comm r 2, nI_xor]
  have hm := Nat.mod_lt (r / 2 ^ (w - 1)) (show 0 < 2 by omega)
  by_cases c : r / 2 ^ (w - 1) % 2 = 1
  · rw [if_pos c, c, if_pos (show ¬ nI 1 = 0 by decide)]
  · rw [if_neg c, show r / 2 ^ (w - 1) % 2 = 0 by omega, if_neg (show ¬ ¬ nI 0 = 0 from fun h => h rfl)]
theorem maskL {w : Nat} (h : w ≤ 32) : ((1 : Int64) <<< ((nI w).toInt64 &&& 63)) - 1 = lN (2 ^ w - 1) := by
  have hw := pow_le h
  rw [show (1 : Int64) = lN 1 from rfl, lN_shl 1 (by omega), Nat.one_mul, lN_sub (Nat.two_pow_pos w)]

/-! The call kind. -/
theorem lgtN {a b : Nat} (ha : a < 9223372036854775808) (hb : b < 9223372036854775808) : 0 < lg_cmp (lN a) (lN b) ↔ b < a := by
  rw [lg_cmp_gt, Int64.lt_iff_toInt_lt, lNi ha, lNi hb]
  omega
theorem fitsT {a w : Nat} (ha : a < 4294967296) (h1 : 1 ≤ w) (h : w ≤ 32) : t_X1_fits (nI a) (nI w) = if a < 2 ^ w then 1 else 0 := by
  unfold t_X1_fits
  by_cases c : w = 32
  · subst c
    rw [if_pos (show (32 : Int32) ≤ nI 32 by decide), if_pos (show a < 2 ^ 32 from ha)]
  · rw [if_neg (show ¬ (32 : Int32) ≤ nI w from nI_ge (b := 32) (by omega) (by decide)), nI_xus ha (by omega)]
    have hd : a / 2 ^ w ≤ a := Nat.div_le_self _ _
    have he : nI (a / 2 ^ w) = 0 ↔ a < 2 ^ w := by
      rw [show (0 : Int32) = nI 0 from rfl, nI_inj (by omega) (by omega), Nat.div_eq_zero_iff]
      have := Nat.two_pow_pos w
      omega
    by_cases g : a < 2 ^ w
    · rw [if_neg (fun h => h (he.mpr g)), if_pos g]
    · rw [if_pos (fun h => g (he.mp h)), if_neg g]
theorem tellT : ∀ m, m < 4 → ∀ x1 x2 x3 x4 : Int32, t_X1_tell x1 x2 x3 x4 (nI m) = (x1, x2, x3, x4, nI (m % 2), nI (m / 2)) := by
  intro m hm x1 x2 x3 x4
  have : m = 0 ∨ m = 1 ∨ m = 2 ∨ m = 3 := by omega
  rcases this with rfl | rfl | rfl | rfl <;> rfl
theorem oddT {a : Nat} (ha : a < 4294967296) : nI a &&& 1 = 0 ↔ ¬ a % 2 = 1 := by
  rw [k1, nI_and, and1, show (0 : Int32) = nI 0 from rfl, nI_inj (by omega) (by omega)]
  omega
def kG (p1 p5 : Int32) (a b c : Nat) : Prop := ∃ w m, 1 ≤ w ∧ w ≤ 32 ∧ m < 4 ∧ p1 = nI w ∧ p5 = nI m ∧ a < 2 ^ w ∧ b < 2 ^ w ∧ c < 2 ^ w ∧ a % 2 = 1
theorem kindC_F {p1 p5 : Int32} {a b c : Nat} {y0 y1 y2 y3 y4 y5 : Int32} (ha : a < 4294967296) (hb : b < 4294967296) (hc : c < 4294967296) (h : ¬ kG p1 p5 a b c) : q_X11_kind p1 (nI a) (nI b) (nI c) p5 y0 y1 y2 y3 y4 y5 = some (.inl 0, (y0, y1, y2, y3, y4, y5)) := by
  unfold q_X11_kind
  rcases cls p1 (n := 33) (by omega) with ⟨w, hw, rfl⟩ | h1
  · by_cases w0 : w = 0
    · subst w0; exact if_pos (by decide)
    · rw [if_neg (show ¬ nI w < 1 by rw [ltI, nI_toInt (by omega), show (1 : Int32).toInt = 1 from rfl]; omega), if_pos (show nI w ≤ 32 from nI_le (b := 32) (by omega) (by decide)), fitsT ha (by omega) (by omega), fitsT hb (by omega) (by omega), fitsT hc (by omega) (by omega)]
      by_cases o : a % 2 = 1
      · rw [if_neg (fun h => (oddT ha).mp h o)]
        by_cases c1 : a < 2 ^ w
        · rw [if_pos c1, ite10]
          by_cases c2 : b < 2 ^ w
          · rw [if_pos c2, ite1e]
            by_cases c3 : c < 2 ^ w
            · rw [if_pos c3, ite10]
              rcases cls p5 (n := 4) (by omega) with ⟨m, hm, rfl⟩ | h5
              · exact absurd ⟨w, m, by omega, by omega, hm, rfl, rfl, c1, c2, c3, o⟩ h
              · by_cases c5 : p5 < 0
                · rw [if_pos c5]
                · rw [if_neg c5]
                  rw [ltI, i0] at c5
                  rw [if_neg (by rw [leI, show (3 : Int32).toInt = 3 from rfl]; omega)]
            · rw [if_neg c3, ite00]
          · rw [if_neg c2, ite0e]
        · rw [if_neg c1, ite00]
      · rw [if_pos ((oddT ha).mpr o)]
  · by_cases c1 : p1 < 1
    · rw [if_pos c1]
    · rw [if_neg c1]
      rw [ltI, show (1 : Int32).toInt = 1 from rfl] at c1
      rw [if_neg (by rw [leI, show (32 : Int32).toInt = 32 from rfl]; omega)]
theorem kindC_T {w m a b c : Nat} {y0 y1 y2 y3 y4 y5 : Int32} (ha : a < 4294967296) (hb : b < 4294967296) (hc : c < 4294967296) (h1 : 1 ≤ w) (h : w ≤ 32) (hm : m < 4) (c1 : a < 2 ^ w) (c2 : b < 2 ^ w) (c3 : c < 2 ^ w) (o : a % 2 = 1) : q_X11_kind (nI w) (nI a) (nI b) (nI c) (nI m) y0 y1 y2 y3 y4 y5 = some (.inr y0, (nI w, nI a, nI b, nI c, nI (m % 2), nI (m / 2))) := by
  unfold q_X11_kind t_X1_width
  rw [if_neg (show ¬ nI w < 1 by rw [ltI, nI_toInt (by omega), show (1 : Int32).toInt = 1 from rfl]; omega), if_pos (show nI w ≤ 32 from nI_le (b := 32) (by omega) (by decide)), fitsT ha (by omega) (by omega), fitsT hb (by omega) (by omega), fitsT hc (by omega) (by omega), if_neg (fun h => (oddT ha).mp h o), if_pos c1, ite10, if_pos c2, ite1e, if_pos c3, ite10, if_neg (nI_pos (by omega)), if_pos (show nI m ≤ 3 from nI_le (b := 3) (by omega) (by decide)), tellT m hm]

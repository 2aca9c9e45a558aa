/-! The digits changed, as often as the place tells. -/
def ICo (a22 : Nat → Int32) : Prop := ∀ k, k < 190 → a22 k = nI (sgN (k / 10) (k % 10))

/-! The chunks of the reference; the calls rolling, chunks, chunkEnd. -/
theorem winT {w : Nat} (h1 : 1 ≤ w) (h8 : w ≤ 8) : q_X11_requireWindow (nI w) = some (.inr (), ()) := by
  unfold q_X11_requireWindow
  rw [if_neg (show ¬ nI w < 1 from nI_nlt (b := 1) h1 (by omega)), if_pos (show nI w ≤ 8 from nI_le (b := 8) h8 (by decide))]
theorem winF {p : Int32} (h : p.toInt < 1 ∨ (9 : Int) ≤ p.toInt) : q_X11_requireWindow p = some (.inl 0, ()) := by
  unfold q_X11_requireWindow
  by_cases c : p < 1
  · rw [if_pos c]
  · rw [if_neg c]
    rw [ltI, show (1 : Int32).toInt = 1 from rfl] at c
    rw [if_neg (by rw [leI, show (8 : Int32).toInt = 8 from rfl]; omega)]
theorem stpT {w : Nat} (h1 : 2 ≤ w) (h8 : w ≤ 64) : q_X11_requireStep (nI w) = some (.inr (), ()) := by
  unfold q_X11_requireStep
  rw [if_neg (show ¬ nI w < 2 from nI_nlt (b := 2) h1 (by omega)), if_pos (show nI w ≤ 64 from nI_le (b := 64) h8 (by decide))]
theorem stpF {p : Int32} (h : p.toInt < 2 ∨ (65 : Int) ≤ p.toInt) : q_X11_requireStep p = some (.inl 0, ()) := by
  unfold q_X11_requireStep
  by_cases c : p < 2
  · rw [if_pos c]
  · rw [if_neg c]
    rw [ltI, show (2 : Int32).toInt = 2 from rfl] at c
    rw [if_neg (by rw [leI, show (64 : Int32).toInt = 64 from rfl]; omega)]
theorem cls2 (p : Int32) {a b : Nat} (hb : b < 2147483647) : (∃ k, a ≤ k ∧ k ≤ b ∧ p = nI k) ∨ (p.toInt < a ∨ ((b + 1 : Nat) : Int) ≤ p.toInt) := by
  rcases cls p (n := b + 1) (by omega) with ⟨k, hk, rfl⟩ | h
  · by_cases c : a ≤ k
    · exact Or.inl ⟨k, c, by omega, rfl⟩
    · refine Or.inr (Or.inl ?_)
      rw [nI_toInt (by omega)]
      omega
  · rcases h with h | h
    · exact Or.inr (Or.inl (by omega))
    · exact Or.inr (Or.inr h)

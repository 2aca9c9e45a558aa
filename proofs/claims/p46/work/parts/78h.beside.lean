/-! The call beside. -/
def sib (k : Nat) : Nat := if k % 2 = 1 then k - 1 else k + 1
theorem sibC : ∀ i, i < 16 → ∀ k, k < 5 → (nI i >>> (nI k &&& 31)) ^^^ 1 = nI (sib (i / 2 ^ k)) := by decide +kernel
theorem sib_le {k : Nat} (h : k < 16) : sib k ≤ 16 := by unfold sib; split <;> omega
/-- what stands beside: the sum, or -1 -/
def bsd (B : Nat → Nat) (n i q : Nat) : Int64 := if cnt n q ≤ sib (i / 2 ^ q) then -1 else lN (tV B n q (sib (i / 2 ^ q)))

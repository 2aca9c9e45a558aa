/-! The levels of the tree. -/
def cnt (n : Nat) : Nat → Nat
  | 0 => (n + 3) / 4
  | l + 1 => (cnt n l + 1) / 2
def tV (B : Nat → Nat) (n : Nat) : Nat → Nat → Nat
  | 0, i => lf B n i
  | l + 1, i => if 2 * i + 1 < cnt n l then pr (tV B n l (2 * i)) (tV B n l (2 * i + 1)) else tV B n l (2 * i)
theorem tV_lt (B : Nat → Nat) (n : Nat) : ∀ l i, tV B n l i < 4294967296 := by
  intro l
  induction l with
  | zero => intro i; exact lf_lt B n i
  | succ l ih =>
    intro i
    show (if _ then _ else _) < _
    split
    · exact pr_lt _ _
    · exact ih _
theorem cnt_le {n : Nat} (hn : n ≤ 64) : ∀ l, cnt n l ≤ 16 := by
  intro l
  induction l with
  | zero => show (n + 3) / 4 ≤ 16; omega
  | succ l ih => show (cnt n l + 1) / 2 ≤ 16; omega
theorem cnt_step {n l : Nat} (h : 1 < cnt n l) : cnt n (l + 1) < cnt n l ∧ 1 ≤ cnt n (l + 1) := by
  show (cnt n l + 1) / 2 < cnt n l ∧ 1 ≤ (cnt n l + 1) / 2
  omega

/-! The calls unseenSlip and best. -/
theorem zR32 {w p : Nat} (h1 : 1 ≤ w) (h : w ≤ 32) (hp : p < 2 ^ w) : ∀ k, zR w p k < 4294967296 := fun k => Nat.lt_of_lt_of_le (zR_lt h1 hp k) (pow_le h)
theorem sokF {p : Int32} {a16 : Nat → Int32} {a b : Int32} (h : p.toInt < 2 ∨ (5 : Int) ≤ p.toInt) : q_X11_slipOfKind p a16 a b = some (.inl 0, a16) := by
  unfold q_X11_slipOfKind
  by_cases c : p < 2
  · rw [if_pos c]
  · rw [if_neg c]
    rw [ltI, show (2 : Int32).toInt = 2 from rfl] at c
    rw [if_neg (by rw [leI, show (4 : Int32).toInt = 4 from rfl]; omega)]
theorem leastN {R : Nat → Nat} {a16 : Nat → Int32} {m f : Nat} (hm : m ≤ 48) (hR : ∀ k, R k < 4294967296) (ha : ∀ k, k < m → a16 k = nI (R k)) (hf : f = 2 ∨ f = 3 ∨ f = 4) (hs : sL R f m = none) : q_X7_leastWithin (nI f) (nI m) a16 = some 0 := by
  rw [leastC hm hR ha hf, hs]
theorem leastS {R : Nat → Nat} {a16 : Nat → Int32} {m f n v : Nat} (hm : m ≤ 48) (hR : ∀ k, R k < 4294967296) (ha : ∀ k, k < m → a16 k = nI (R k)) (hf : f = 2 ∨ f = 3 ∨ f = 4) (hs : sL R f m = some n) (hv : sU R f n = some v) : q_X7_leastWithin (nI f) (nI m) a16 = some (lN v) := by
  have h := leastC hm hR ha hf
  rw [hs] at h
  dsimp only at h
  rw [hv] at h
  exact h
theorem sokT {f w p : Nat} {a16 : Nat → Int32} (h2 : 2 ≤ f) (h4 : f ≤ 4) (h1 : 1 ≤ w) (h : w ≤ 32) (hp : p < 2 ^ w) : ∃ g, q_X11_slipOfKind (nI f) a16 (nI w) (nI p) = some (.inr (match sL (zR w p) f 48 with | none => 0 | some n => match sU (zR w p) f n with | none => 0 | some v => lN v), g) := by
  obtain ⟨g, e1, e2⟩ := restsC (n := 48) (a16 := a16) h1 h hp (Nat.le_refl _)
  refine ⟨g, ?_⟩
  unfold q_X11_slipOfKind q_X7_leastUnseen
  rw [if_neg (show ¬ nI f < 2 from nI_nlt (b := 2) h2 (by omega)), if_pos (show nI f ≤ 4 from nI_le (b := 4) h4 (by decide)), show (48 : Int32) = nI 48 from rfl, e1, Option.bind_some, leastC (Nat.le_refl _) (zR32 h1 h hp) e2 (by omega), Option.bind_some, Option.bind_some]
  rfl
theorem lN0 {v : Nat} (h : v < 9223372036854775808) (h0 : v ≠ 0) : ¬ lg_cmp (lN v) 0 = 0 := by
  rw [lg_eq, show (0 : Int64) = lN 0 from rfl, lN_inj (by omega) (by omega)]
  exact h0
/-- the fewest turned bits of a slip that is not seen, or 5 -/
def sF5 (R : Nat → Nat) (b : Nat) : Nat := match fo (fun f => (sL R f b).isSome) 2 3 with | none => 5 | some f => f
theorem sF5_le (R : Nat → Nat) (b : Nat) : sF5 R b ≤ 5 ∧ 2 ≤ sF5 R b := by
  unfold sF5
  split
  · omega
  · rename_i f hf
    have := fo_lt _ _ _ hf
    omega
/-- the best one, and its fewest turned bits, of t tried ones -/
def bS (w b : Nat) : Nat → Nat × Nat
  | 0 => (0, 0)
  | t + 1 => if sF5 (zR w (2 * t + 1)) b ≤ (bS w b t).2 then bS w b t else (2 * t + 1, sF5 (zR w (2 * t + 1)) b)
theorem bS_le (w b : Nat) : ∀ t, (bS w b t).2 ≤ 5 := by
  intro t
  induction t with
  | zero => show 0 ≤ 5; omega
  | succ t ih =>
    show (if _ then _ else _ : Nat × Nat).2 ≤ 5
    split
    · exact ih
    · exact (sF5_le _ _).1
theorem tell0 (a b c d : Int32) : t_X1_tell a b c d 0 = (a, b, c, d, 0, 0) := by
  unfold t_X1_tell
  rw [if_pos (by decide), if_pos (by decide)]
theorem two_w {w : Nat} (h1 : 1 ≤ w) : 2 ^ w = 2 * 2 ^ (w - 1) := by
  obtain ⟨k, rfl⟩ : ∃ k, w = k + 1 := ⟨w - 1, by omega⟩
  rw [Nat.pow_succ, Nat.mul_comm]
  rfl
theorem shl1 {w : Nat} (h7 : w ≤ 7) : (1 : Int32) <<< (nI w &&& 31) = nI (2 ^ w) := by
  rw [k1, nI_shl 1 (by omega), Nat.one_mul]
theorem iteI {a b : Nat} {x y : Nat} (ha : a < 2147483648) (hb : b < 2147483648) : (if nI a ≤ nI b then nI x else nI y) = nI (if a ≤ b then x else y) := by
  by_cases c : a ≤ b
  · rw [if_pos c, if_pos (nI_le c hb)]
  · rw [if_neg c, if_neg (nI_ge (by omega) ha)]

/-! Check digits: the scheme of doubling. -/
def lc (d : Nat) (b : Bool) : Nat := if (if b then 2 * d else d) ≤ 9 then (if b then 2 * d else d) else (if b then 2 * d else d) - 9
def lS (D : Nat → Nat) (n : Nat) : Nat → Nat
  | 0 => 0
  | t + 1 => lS D n t + lc (D (n - 1 - t)) (decide (t % 2 = 0))
theorem lc_le : ∀ d, d < 10 → ∀ b, lc d b ≤ 9 := by decide +kernel
theorem lS_le {D : Nat → Nat} {n : Nat} (hD : ∀ k, k < n → D k < 10) : ∀ t, t ≤ n → lS D n t ≤ 9 * t := by
  intro t
  induction t with
  | zero => intro _; exact Nat.le_refl 0
  | succ t ih =>
    intro h
    have := lc_le (D (n - 1 - t)) (hD _ (by omega)) (decide (t % 2 = 0))
    have := ih (by omega)
    show lS D n t + _ ≤ _
    omega
theorem lcT : ∀ d, d < 10 → (if (2 : Int32) * nI d ≤ 9 then (2 : Int32) * nI d else (2 : Int32) * nI d - 9) = nI (lc d true) := by decide +kernel
theorem lcF : ∀ d, d < 10 → (if nI d ≤ 9 then nI d else nI d - 9) = nI (lc d false) := by decide +kernel
theorem luhnC {n : Nat} {D : Nat → Nat} {a18 : Nat → Int32} (hn : n ≤ 18) (h0 : 1 ≤ n) (hD : ∀ k, k < n → D k < 10 ∧ a18 k = nI (D k)) : ∃ r : Int32 × Int32 × Int32, q_X6_checkByDoubling_L11 18 a18 10000 0 1 (nI n - 1) = some r ∧ r.1 = nI (lS D n n) := by
  have key : ∀ k f t, t + k = n → k < f → ∃ r : Int32 × Int32 × Int32, q_X6_checkByDoubling_L11 18 a18 f (nI (lS D n t)) (if t % 2 = 0 then 1 else 0) (nI k + (-1)) = some r ∧ r.1 = nI (lS D n n) := by
    intro k
    induction k with
    | zero =>
      intro f t ht hf
      obtain ⟨f, rfl⟩ : ∃ g, f = g + 1 := ⟨f - 1, by omega⟩
      have : t = n := by omega
      subst this
      exact ⟨_, by rw [q_X6_checkByDoubling_L11, if_pos (by decide)], rfl⟩
    | succ k ih =>
      intro f t ht hf
      obtain ⟨f, rfl⟩ : ∃ g, f = g + 1 := ⟨f - 1, by omega⟩
      obtain ⟨d1, d2⟩ := hD k (by omega)
      have es : lS D n (t + 1) = lS D n t + lc (D k) (decide (t % 2 = 0)) := by
        show lS D n t + lc (D (n - 1 - t)) _ = _
        rw [show n - 1 - t = k by omega]
      obtain ⟨r, r1, r2⟩ := ih f (t + 1) (by omega) (by omega)
      refine ⟨r, ?_, r2⟩
      rw [nI_m1 (by omega), show k + 1 - 1 = k by omega, q_X6_checkByDoubling_L11, if_neg (nI_pos (by omega)), atI (by omega) (by omega), d2]
      by_cases c : t % 2 = 0
      · rw [es, decide_eq_true c, if_neg (show ¬ (t + 1) % 2 = 0 by omega)] at r1
        rw [if_pos c, if_neg (show ¬ (1 : Int32) = 0 by decide), lcT _ d1, nI_add, if_pos (show ¬ (1 : Int32) = 0 by decide)]
        exact r1
      · rw [es, decide_eq_false c, if_pos (show (t + 1) % 2 = 0 by omega)] at r1
        rw [if_neg c, if_pos rfl, lcF _ d1, nI_add, if_neg (show ¬ ¬ (0 : Int32) = 0 from fun h => h rfl)]
        exact r1
  obtain ⟨r, r1, r2⟩ := key n 10000 0 (by omega) (by omega)
  refine ⟨r, ?_, r2⟩
  rw [nI_pred' h0, ← nI_m1 h0]
  exact r1

/-! Check digits: the scheme of ninety-seven. -/
def n97 (D : Nat → Nat) : Nat → Nat
  | 0 => 0
  | k + 1 => (10 * n97 D k + D k) % 97
theorem n97_lt (D : Nat → Nat) : ∀ k, n97 D k < 97 := by
  intro k
  cases k with
  | zero => exact (by decide : 0 < 97)
  | succ k => exact Nat.mod_lt _ (by decide)
theorem n97_step {x d : Nat} (hx : x < 97) (hd : d < 10) : ((10 : Int32) * nI x + nI d) - ((10 : Int32) * nI x + nI d) / 97 * 97 = nI ((10 * x + d) % 97) := by
  rw [show (10 : Int32) * nI x = nI (10 * x) from nI_mul 10 x, nI_add, show (97 : Int32) = nI 97 from rfl, nI_mod (by omega) (by omega) (by omega)]
theorem n97_end {x : Nat} (hx : x < 97) : (98 : Int32) - (((100 : Int32) * nI x) - ((100 : Int32) * nI x) / 97 * 97) = nI (98 - 100 * x % 97) := by
  rw [show (100 : Int32) * nI x = nI (100 * x) from nI_mul 100 x, show (97 : Int32) = nI 97 from rfl, nI_mod (by omega) (by omega) (by omega)]
  exact nI_sub (a := 98) (by omega)
theorem c97C {n : Nat} {D : Nat → Nat} {a18 : Nat → Int32} (hn : n ≤ 18) (hD : ∀ k, k < n → D k < 10 ∧ a18 k = nI (D k)) : q_X6_checkByNinetySeven (nI n) 18 a18 = some (nI (98 - 100 * n97 D n % 97)) := by
  obtain ⟨r, hr, e⟩ := loop_inv (F := fun f (z : Int32 × Int32) => q_X6_checkByNinetySeven_L4 (nI n) 18 a18 f z.1 z.2)
    (fun j z => z = (nI (n97 D j), nI j)) (fun r => r.1 = nI (n97 D n)) n
    (fun f z hz => by
      subst hz
      exact ⟨_, by show q_X6_checkByNinetySeven_L4 _ _ _ (f + 1) (nI _) (nI n) = _; rw [q_X6_checkByNinetySeven_L4, show t_X5_size (nI n) = nI n from rfl, if_pos (nI_le (Nat.le_refl _) (by omega))], rfl⟩)
    (fun f j z hj hz => by
      subst hz
      refine Or.inr ⟨_, ?_, rfl⟩
      show q_X6_checkByNinetySeven_L4 _ _ _ (f + 1) (nI _) (nI j) = q_X6_checkByNinetySeven_L4 _ _ _ f (nI (n97 D (j + 1))) (nI (j + 1))
      rw [q_X6_checkByNinetySeven_L4, show t_X5_size (nI n) = nI n from rfl, if_neg (nI_ge hj (by omega)), atI (by omega) (by omega), (hD j hj).2, n97_step (n97_lt D j) (hD j hj).1, nI_1]
      rfl)
    10000 0 (nI 0, nI 0) rfl (Nat.zero_le _) (by omega)
  have hr' : q_X6_checkByNinetySeven_L4 (nI n) 18 a18 10000 0 0 = some r := hr
  unfold q_X6_checkByNinetySeven
  rw [hr', Option.bind_some, e, n97_end (n97_lt D n)]

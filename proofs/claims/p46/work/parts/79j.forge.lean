/-! The call forge. -/
theorem row76 {x v : Nat} {a2 : Nat → Int32} (hx : x + 4 ≤ 64) (hv : v < 4294967296) : ∃ r : Int32 × (Nat → Int32), q_X11_forge_L76 (nI x) (nI v) 10000 0 a2 = some r ∧ ∀ k, r.2 k = if x ≤ k ∧ k < x + 4 then nI (bw v (k - x)) else a2 k := by
  obtain ⟨r, hr, g⟩ := loop_inv (F := fun f (z : Int32 × (Nat → Int32)) => q_X11_forge_L76 (nI x) (nI v) f z.1 z.2)
    (fun j z => z.1 = nI j ∧ ∀ k, z.2 k = if x ≤ k ∧ k < x + j then nI (bw v (k - x)) else a2 k) (fun r => ∀ k, r.2 k = if x ≤ k ∧ k < x + 4 then nI (bw v (k - x)) else a2 k) 4
    (fun f z h => by
      obtain ⟨z1, z2⟩ := z
      obtain ⟨rfl, h⟩ := h
      exact ⟨_, by show q_X11_forge_L76 _ _ (f + 1) (nI 4) z2 = some (nI 4, z2); rw [q_X11_forge_L76, if_pos (by decide)], h⟩)
    (fun f j z hj h => by
      obtain ⟨z1, z2⟩ := z
      obtain ⟨rfl, h⟩ := h
      have h : ∀ k, z2 k = if x ≤ k ∧ k < x + j then nI (bw v (k - x)) else a2 k := h
      refine Or.inr ⟨(nI (j + 1), upd z2 (x + j) (nI (bw v j))), ?_, rfl, ?_⟩
      · show q_X11_forge_L76 _ _ (f + 1) (nI j) z2 = q_X11_forge_L76 _ _ f (nI (j + 1)) (upd z2 (x + j) (nI (bw v j)))
        rw [q_X11_forge_L76, if_neg (show ¬ (4 : Int32) ≤ nI j from nI_ge (b := 4) hj (by decide)), nI_add, bwC hv hj, chI (by omega) (by decide), nI_1]
      · intro k
        show upd z2 (x + j) (nI (bw v j)) k = _
        by_cases e : k = x + j
        · subst e; rw [upd_eq, if_pos (by omega), Nat.add_sub_cancel_left]
        · rw [upd_ne e, h]
          by_cases c : x ≤ k ∧ k < x + j
          · rw [if_pos c, if_pos (by omega)]
          · rw [if_neg c, if_neg (by omega)])
    10000 0 (nI 0, a2) ⟨rfl, fun k => (if_neg (by omega)).symm⟩ (Nat.zero_le _) (by omega)
  exact ⟨r, hr, g⟩
theorem lN_toInt' {n : Nat} (h : n < 9223372036854775808) : (lN n).toInt = (n : Int) := lg_ofNat_toInt h
/-- a long that is a sum, or not -/
theorem clsW (q : Int64) : (∃ t, t < 4294967296 ∧ q = lN t) ∨ (q.toInt < 0 ∨ 4294967295 < q.toInt) := by
  by_cases h : q.toInt < 0 ∨ 4294967295 < q.toInt
  · exact Or.inr h
  · refine Or.inl ⟨q.toInt.toNat, by omega, ?_⟩
    apply Int64.toInt_inj.mp
    rw [lN_toInt' (by omega)]
    omega
theorem sub4 {n : Nat} (hn : n ≤ 64) : (nI n - 4).toInt = (n : Int) - 4 := by
  rw [Int32.toInt_sub, nI_toInt (by omega), show (4 : Int32).toInt = 4 from rfl, Int.bmod_eq_of_le (by omega) (by omega)]

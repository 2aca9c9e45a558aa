/-! The row of bytes, and what is kept of it. -/
theorem writeC {p n m : Nat} {a6 a5 a2 : Nat → Int32} (hp : p < 10) (hn : n ≤ 64) : ∃ v, q_X8_write (nI p) (nI 64) 10 a6 (nI n) 640 a5 64 a2 = some (upd a6 p (nI n), v) ∧ (∀ k, k < n → v (64 * p + k) = a2 k) ∧ ∀ i, (i < 64 * p ∨ 64 * p + 64 ≤ i) → v i = a5 i := by
  obtain ⟨r, hr, h1, h2⟩ := loop_inv (F := fun f (s : Int32 × (Nat → Int32)) => q_X8_write_L36 (nI p) (nI n) (nI 64) 640 64 a2 f s.1 s.2)
    (fun i s => s.1 = nI i ∧ (∀ k, k < i → s.2 (64 * p + k) = a2 k) ∧ ∀ i, (i < 64 * p ∨ 64 * p + 64 ≤ i) → s.2 i = a5 i)
    (fun r => (∀ k, k < n → r.2 (64 * p + k) = a2 k) ∧ ∀ i, (i < 64 * p ∨ 64 * p + 64 ≤ i) → r.2 i = a5 i) n
    (fun f s h => by
      obtain ⟨l, v⟩ := s
      obtain ⟨rfl, h1, h2⟩ := h
      refine ⟨_, ?_, h1, h2⟩
      show q_X8_write_L36 _ _ _ _ _ _ (f + 1) (nI n) v = _
      rw [q_X8_write_L36, if_pos (nI_le (Nat.le_refl n) (by omega))])
    (fun f i s hi h => by
      obtain ⟨l, v⟩ := s
      obtain ⟨rfl, h1, h2⟩ := h
      refine Or.inr ⟨(nI (i + 1), upd v (64 * p + i) (a2 i)), ?_, rfl, ?_, ?_⟩
      · show q_X8_write_L36 _ _ _ _ _ _ (f + 1) (nI i) v = q_X8_write_L36 _ _ _ _ _ _ f (nI (i + 1)) _
        rw [q_X8_write_L36, if_neg (nI_ge hi (by omega)), nI_mul, nI_add, if_neg (nI_ge (by omega) (by omega)), if_pos (xinI (by omega) (by omega)), nI_clamp (by omega), nI_1, atI (by omega) (by omega), Nat.mul_comm p 64]
      · intro k hk
        by_cases e : k = i
        · subst e; exact upd_eq
        · rw [show (nI (i + 1), upd v (64 * p + i) (a2 i)).2 = upd v (64 * p + i) (a2 i) from rfl, upd_ne (by omega)]; exact h1 k (by omega)
      · intro t ht
        rw [show (nI (i + 1), upd v (64 * p + i) (a2 i)).2 = upd v (64 * p + i) (a2 i) from rfl, upd_ne (by omega)]; exact h2 t ht)
    10000 0 (nI 0, a5) ⟨rfl, fun k hk => absurd hk (Nat.not_lt_zero k), fun _ _ => rfl⟩ (Nat.zero_le _) (by omega)
  refine ⟨r.2, ?_, h1, h2⟩
  unfold q_X8_write
  have hm : (if nI 64 < t_X5_size (nI n) then nI 64 else t_X5_size (nI n)) = nI n := if_neg (nI_nlt hn (by omega))
  rw [if_neg (nI_pos (by omega)), if_pos (nI_lt hp (by omega)), if_pos (xinI hp (by omega)), hm, k0]
  have hr' : q_X8_write_L36 (nI p) (nI n) (nI 64) 640 64 a2 10000 (nI 0) a5 = some r := hr
  rw [hr', nI_clamp (by omega)]
  rfl
theorem keepC {p q n : Nat} {a6 a5 a2 : Nat → Int32} (hp : p < 10) (hq : q ≤ 10) (hn : n ≤ 64) : ∃ v, q_X3_keep (nI p) (nI q) (nI 64) (nI n) a6 a5 a2 = some (nI ((p + 1) % 10), nI (min (q + 1) 10), upd a6 p (nI n), v) ∧ (∀ k, k < n → v (64 * p + k) = a2 k) ∧ ∀ i, (i < 64 * p ∨ 64 * p + 64 ≤ i) → v i = a5 i := by
  obtain ⟨v, h, h1, h2⟩ := writeC (m := 0) (a6 := a6) (a5 := a5) (a2 := a2) hp hn
  refine ⟨v, ?_, h1, h2⟩
  unfold q_X3_keep
  rw [h, Option.bind_some, nI_1, nI_1, k10, nI_mod (by omega) (by omega) (by omega), nI_min' (by omega) (by omega)]

/-! Typing bytes, and going back. -/
theorem byte_ex (z : Int32) : ∃ b, b < 256 ∧ z &&& 255 = nI b := by
  refine ⟨(z.toBitVec &&& 255#32).toNat, ?_, ?_⟩
  · rw [BitVec.toNat_and]
    exact Nat.lt_of_le_of_lt Nat.and_le_right (by decide)
  · apply Int32.toBitVec_inj.mp
    rw [Int32.toBitVec_and]
    show _ = BitVec.ofNat 32 _
    rw [BitVec.ofNat_toNat, BitVec.setWidth_eq]
    rfl
theorem typeC {w : Int32} {n m : Nat} {f : Nat → Int32} (h : n + m ≤ 64) : ∃ r : Int32 × Int32 × (Nat → Int32), q_X11_type_L57 w (nI m) 10000 (nI 0) (nI n) f = some r ∧ r.2.1 = nI (n + m) ∧ ∀ t, r.2.2 t = if n ≤ t ∧ t < n + m then t_X11_byteOfWord w (nI (t - n)) else f t := by
  obtain ⟨r, hr, h1, h2⟩ := loop_inv (F := fun k (s : Int32 × Int32 × (Nat → Int32)) => q_X11_type_L57 w (nI m) k s.1 s.2.1 s.2.2)
    (fun i s => s.1 = nI i ∧ s.2.1 = nI (n + i) ∧ ∀ t, s.2.2 t = if n ≤ t ∧ t < n + i then t_X11_byteOfWord w (nI (t - n)) else f t)
    (fun r => r.2.1 = nI (n + m) ∧ ∀ t, r.2.2 t = if n ≤ t ∧ t < n + m then t_X11_byteOfWord w (nI (t - n)) else f t) m
    (fun k s h => by
      obtain ⟨l, c, v⟩ := s
      obtain ⟨rfl, h1, h2⟩ := h
      refine ⟨_, ?_, h1, h2⟩
      show q_X11_type_L57 _ _ (k + 1) (nI m) c v = _
      rw [q_X11_type_L57, if_pos (nI_le (Nat.le_refl m) (by omega))])
    (fun k i s hi h => by
      obtain ⟨l, c, v⟩ := s
      obtain ⟨rfl, h1, h2⟩ := h
      have h1 : c = nI (n + i) := h1
      subst h1
      have h2 : ∀ t, v t = if n ≤ t ∧ t < n + i then t_X11_byteOfWord w (nI (t - n)) else f t := h2
      refine Or.inr ⟨(nI (i + 1), nI (n + i + 1), upd v (n + i) (t_X11_byteOfWord w (nI i))), ?_, rfl, rfl, ?_⟩
      · show q_X11_type_L57 _ _ (k + 1) (nI i) (nI (n + i)) v = q_X11_type_L57 _ _ k (nI (i + 1)) (nI (n + i + 1)) _
        rw [q_X11_type_L57, if_neg (nI_ge hi (by omega)), appendC (by omega) (by decide) (by omega), Option.bind_some, nI_1]
      · intro t
        show upd v (n + i) _ t = _
        by_cases e : t = n + i
        · subst e
          rw [upd_eq, if_pos (by omega), show n + i - n = i by omega]
        · rw [upd_ne e, h2]
          by_cases c : n ≤ t ∧ t < n + i
          · rw [if_pos c, if_pos (by omega)]
          · rw [if_neg c, if_neg (by omega)])
    10000 0 (nI 0, nI n, f) ⟨rfl, rfl, fun t => by rw [if_neg (by omega)]⟩ (Nat.zero_le _) (by omega)
  exact ⟨r, hr, h1, h2⟩
theorem readC {s m : Nat} {a6 a5 a2 : Nat → Int32} (hs : s < 10) (hm : m ≤ 64) (h6 : a6 s = nI m) : ∃ g, q_X8_read (nI s) (nI 64) 10 a6 640 a5 64 a2 = some (nI m, g) ∧ ∀ t, t < m → g t = a5 (64 * s + t) := by
  obtain ⟨r, hr, h1, h2⟩ := loop_inv (F := fun k (x : Int32 × Int32 × (Nat → Int32)) => q_X8_read_L20 (nI s) (nI 64) 10 a6 640 a5 64 k x.1 x.2.1 x.2.2)
    (fun i x => x.1 = nI i ∧ x.2.1 = nI i ∧ ∀ t, t < i → x.2.2 t = a5 (64 * s + t))
    (fun r => r.2.1 = nI m ∧ ∀ t, t < m → r.2.2 t = a5 (64 * s + t)) m
    (fun k x h => by
      obtain ⟨l, c, v⟩ := x
      obtain ⟨rfl, h1, h2⟩ := h
      refine ⟨_, ?_, h1, h2⟩
      show q_X8_read_L20 _ _ _ _ _ _ _ (k + 1) (nI m) c v = _
      rw [q_X8_read_L20, if_pos (xinI (by omega) (by omega)), nI_clamp (by omega), h6, if_pos (nI_le (Nat.le_refl m) (by omega))])
    (fun k i x hi h => by
      obtain ⟨l, c, v⟩ := x
      obtain ⟨rfl, h1, h2⟩ := h
      have h1 : c = nI i := h1
      subst h1
      have h2 : ∀ t, t < i → v t = a5 (64 * s + t) := h2
      refine Or.inr ⟨(nI (i + 1), nI (i + 1), upd v i (a5 (64 * s + i))), ?_, rfl, rfl, ?_⟩
      · show q_X8_read_L20 _ _ _ _ _ _ _ (k + 1) (nI i) (nI i) v = q_X8_read_L20 _ _ _ _ _ _ _ k (nI (i + 1)) (nI (i + 1)) _
        rw [q_X8_read_L20, if_pos (xinI (by omega) (by omega)), nI_clamp (by omega), h6, if_neg (nI_ge hi (by omega)), nI_mul, nI_add, if_neg (nI_ge (by omega) (by omega)), if_pos (xinI (by omega) (by omega)), nI_clamp (by omega), appendC (by omega) (by decide) (by omega), Option.bind_some, nI_1, Nat.mul_comm s 64]
      · intro t ht
        show upd v i _ t = _
        by_cases e : t = i
        · subst e; exact upd_eq
        · rw [upd_ne e]; exact h2 t (by omega))
    10000 0 (nI 0, nI 0, a2) ⟨rfl, rfl, fun t ht => absurd ht (Nat.not_lt_zero t)⟩ (Nat.zero_le _) (by omega)
  refine ⟨r.2.2, ?_, h2⟩
  unfold q_X8_read t_X5_empty
  have hr' : q_X8_read_L20 (nI s) (nI 64) 10 a6 640 a5 64 10000 (nI 0) (nI 0) a2 = some r := hr
  rw [if_neg (nI_pos (by omega)), if_pos (nI_lt hs (by omega)), k0, hr', Option.bind_some, h1]

/-! Locals that are no longer used may be forgotten. -/
def xle (L1 L2 : xL) : Prop := ∀ (k : Nat) (v : Value), L1[k]? = some (some v) → L2[k]? = some (some v)
def xleP : xL → xL → Prop
  | [], _ => True
  | none :: a, _ :: b => xleP a b
  | some u :: a, some v :: b => u = v ∧ xleP a b
  | _, _ => False
theorem xleP_le : ∀ (a b : xL), xleP a b → xle a b := by
  intro a
  induction a with
  | nil => intro b _ k v hk; simp at hk
  | cons x a ih =>
    intro b h k v hk
    cases b with
    | nil => cases x <;> exact h.elim
    | cons y b =>
      cases x with
      | none =>
        cases k with
        | zero => cases hk
        | succ k => exact ih b h k v hk
      | some u =>
        cases y with
        | none => exact h.elim
        | some w =>
          obtain ⟨h1, h2⟩ := h
          subst h1
          cases k with
          | zero => exact hk
          | succ k => exact ih b h2 k v hk
theorem xle_len {a b : xL} (h : xle a b) {k : Nat} {v : Value} (hk : a[k]? = some (some v)) : k < b.length := (List.getElem?_eq_some_iff.mp (h k v hk)).1
theorem xle_kill {a b : xL} (h : xle a b) (i : Nat) : xle (xkill a i) (xkill b i) := by
  intro k v hk
  obtain ⟨h1, h2⟩ := xkill_get hk
  have h3 := h k v h1
  unfold xkill
  cases i with
  | zero => exact h3
  | succ j =>
    dsimp only
    split
    · rename_i x hx
      split
      · rename_i hc
        rw [List.getElem?_set]
        by_cases hjk : j = k
        · subst hjk
          rw [h3] at hx
          cases hx
          exact absurd ⟨rfl, hc⟩ h2
        · rw [if_neg hjk]; exact h3
      · exact h3
    · exact h3
theorem xle_set {a b : xL} (h : xle a b) (hl : a.length = b.length) (i : Nat) (u : Option Value) : xle (a.set i u) (b.set i u) := by
  intro k v hk
  rw [List.getElem?_set] at hk ⊢
  by_cases hik : i = k
  · subst hik
    simp only [if_true] at hk ⊢
    rw [← hl]
    exact hk
  · rw [if_neg hik] at hk ⊢
    exact h k v hk
theorem xkill_len (L : xL) (i : Nat) : (xkill L i).length = L.length := by
  unfold xkill
  cases i with
  | zero => rfl
  | succ j =>
    dsimp only
    split
    · split
      · rw [List.length_set]
      · rfl
    · rfl
theorem xle_set1 {a b : xL} (h : xle a b) (hl : a.length = b.length) (i : Nat) (v : Value) : xle (xset1 a i v) (xset1 b i v) := xle_set (xle_kill h i) (by rw [xkill_len, xkill_len, hl]) i _
theorem xle_set2 {a b : xL} (h : xle a b) (hl : a.length = b.length) (i : Nat) (v : Value) : xle (xset2 a i v) (xset2 b i v) := xle_set (xle_set (xle_kill h i) (by rw [xkill_len, xkill_len, hl]) i _) (by rw [List.length_set, List.length_set, xkill_len, xkill_len, hl]) _ _
theorem xset1_len (L : xL) (i : Nat) (v : Value) : (xset1 L i v).length = L.length := by unfold xset1; rw [List.length_set, xkill_len]
theorem xset2_len (L : xL) (i : Nat) (v : Value) : (xset2 L i v).length = L.length := by unfold xset2; rw [List.length_set, List.length_set, xkill_len]
theorem xone_le {S : Nat × (Nat → Int32)} {x : xI} {pc pc2 : Nat} {L L' L2' : xL} {st st2 : List Value} {M M2 : xM} (hle : xle L' L) (hl : L'.length = L.length) (h : xone S x (pc, L', st) M = some ((pc2, L2', st2), M2)) : ∃ L2, xone S x (pc, L, st) M = some ((pc2, L2, st2), M2) ∧ xle L2' L2 ∧ L2'.length = L2.length := by
  obtain ⟨ins, len, a, b, w, v⟩ := x
  cases ins <;> simp only [xone, cond_eq_ite] at h ⊢ <;> (first | (cases h; done) | skip)
  case iload idx => split at h <;> first | (rename_i y hy; rw [hle _ _ hy]; cases h; exact ⟨L, rfl, hle, hl⟩) | cases h
  case iload_n idx => split at h <;> first | (rename_i y hy; rw [hle _ _ hy]; cases h; exact ⟨L, rfl, hle, hl⟩) | cases h
  case lload idx => split at h <;> first | (rename_i y hy; rw [hle _ _ hy]; cases h; exact ⟨L, rfl, hle, hl⟩) | cases h
  case lload_n idx => split at h <;> first | (rename_i y hy; rw [hle _ _ hy]; cases h; exact ⟨L, rfl, hle, hl⟩) | cases h
  case aload idx => split at h <;> first | (rename_i y hy; rw [hle _ _ hy]; cases h; exact ⟨L, rfl, hle, hl⟩) | cases h
  case aload_n idx => split at h <;> first | (rename_i y hy; rw [hle _ _ hy]; cases h; exact ⟨L, rfl, hle, hl⟩) | cases h
  case istore idx => split at h <;> first | (cases h; exact ⟨_, rfl, xle_set1 hle hl _ _, by rw [xset1_len, xset1_len, hl]⟩) | cases h
  case istore_n idx => split at h <;> first | (cases h; exact ⟨_, rfl, xle_set1 hle hl _ _, by rw [xset1_len, xset1_len, hl]⟩) | cases h
  case astore idx => split at h <;> first | (cases h; exact ⟨_, rfl, xle_set1 hle hl _ _, by rw [xset1_len, xset1_len, hl]⟩) | cases h
  case astore_n idx => split at h <;> first | (cases h; exact ⟨_, rfl, xle_set1 hle hl _ _, by rw [xset1_len, xset1_len, hl]⟩) | cases h
  case lstore idx => split at h <;> first | (cases h; exact ⟨_, rfl, xle_set2 hle hl _ _, by rw [xset2_len, xset2_len, hl]⟩) | cases h
  case lstore_n idx => split at h <;> first | (cases h; exact ⟨_, rfl, xle_set2 hle hl _ _, by rw [xset2_len, xset2_len, hl]⟩) | cases h
  case iinc idx n =>
    split at h
    · rename_i y c hy
      rw [hle _ _ hy]
      cases h
      exact ⟨_, rfl, xle_set1 hle hl _ _, by rw [xset1_len, xset1_len, hl]⟩
    · cases h
  case invokestatic idx =>
    split at h
    · split at h
      · rename_i hq
        cases h
        exact ⟨L, by simp only [if_pos hq]; rfl, hle, hl⟩
      · rename_i hq1
        split at h
        · rename_i hq
          cases h
          exact ⟨L, by simp only [if_neg hq1, if_pos hq]; rfl, hle, hl⟩
        · cases h
    · cases h
  case tableswitch d lo hi offs =>
    split at h
    · split at h
      · rename_i hq
        cases h
        exact ⟨L, by simp only [if_pos hq], hle, hl⟩
      · rename_i hq
        split at h
        · rename_i off ho
          cases h
          exact ⟨L, by simp only [if_neg hq, ho], hle, hl⟩
        · cases h
    · cases h
  all_goals
    (repeat' split at h) <;> (first | (cases h; done) | (cases h; refine ⟨L, ?_, hle, hl⟩; simp_all [xpu]))
theorem xexec_le2 {S : Nat × (Nat → Int32)} : ∀ (n d i pc : Nat) (L' L : xL) (st : List Value) (M : xM) (r : xR), xle L' L → L'.length = L.length → xexec S n d i (pc, L', st) M = some r → xexec S n d i (pc, L, st) M = some r := by
  intro n
  induction n with
  | zero => intro d i pc L' L st M r _ _ h; cases h
  | succ n ih =>
    intro d i pc L' L st M r hle hl h
    unfold xexec at h ⊢
    dsimp only at h ⊢
    cases hx : xcod i pc with
    | none => rw [hx] at h; cases h
    | some x =>
      rw [hx] at h
      dsimp only at h ⊢
      split at h
      · cases h1 : xone S x (pc, L', st) M with
        | none => rw [h1] at h; cases h
        | some r1 =>
          rw [h1] at h
          obtain ⟨⟨pc2, L2', st2⟩, M2⟩ := r1
          obtain ⟨L2, h2, h3, h4⟩ := xone_le hle hl h1
          rw [h2]
          exact ih _ _ _ _ _ _ _ _ h3 h4 h
      · exact h
      · cases d with
        | zero => cases h
        | succ d' =>
          dsimp only at h ⊢
          cases hm : xmay x st M with
          | false => rw [hm] at h; cases h
          | true =>
            rw [hm] at h
            dsimp only [cond_true] at h ⊢
            cases hc : xexec S n d' x.2.2.1 (0, xent (xmd x.2.2.1).2.2.1 (xargs (xmd x.2.2.1).2.2.2.2.2.1 st), []) M with
            | none => rw [hc] at h; cases h
            | some r1 =>
              rw [hc] at h
              obtain ⟨o, M'⟩ := r1
              cases o with
              | inr v => exact ih _ _ _ _ _ _ _ _ hle hl h
              | inl k =>
                dsimp only at h ⊢
                split at h
                · exact h
                · unfold xcatch at h ⊢
                  dsimp only at h ⊢
                  split at h
                  · cases h
                  · rename_i F' hF
                    split at hF
                    · cases hF
                    · split at hF
                      · cases hF
                        dsimp only
                        exact ih _ _ _ _ _ _ _ _ (xle_set (xle_kill hle _) (by rw [xkill_len, xkill_len, hl]) _ _) (by rw [List.length_set, List.length_set, xkill_len, xkill_len, hl]) h
                      · cases hF
                        dsimp only
                        exact ih _ _ _ _ _ _ _ _ (xle_set (xle_kill hle _) (by rw [xkill_len, xkill_len, hl]) _ _) (by rw [List.length_set, List.length_set, xkill_len, xkill_len, hl]) h
                      · cases hF
      · exact h
      · exact h
theorem ev_forget {S : Nat × (Nat → Int32)} {d i pc : Nat} {L' L : xL} {st : List Value} {M : xM} {r : xR} (hle : xleP L' L) (hl : L'.length = L.length) (h : Ev S d i (pc, L', st) M r) : Ev S d i (pc, L, st) M r := by
  obtain ⟨n, h⟩ := h
  exact ⟨n, xexec_le2 n d i pc L' L st M r (xleP_le _ _ hle) hl h⟩

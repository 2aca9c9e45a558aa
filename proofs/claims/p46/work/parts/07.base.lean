/-! The worlds of the small machine as the kit's worlds. -/
def xW : List Cond := lw_tbl.filter goodWord
theorem xW_good : GoodIn xW xW := fun w hw => ⟨hw, good_of_word (List.mem_filter.mp hw).2⟩
theorem xat_use {k : Nat} {c : Cond} (h : xat k c = true) : c ∈ lw_tbl := List.mem_of_getElem? (of_decide_eq_true h)
theorem xat_w {k : Nat} {c : Cond} (h : xat k c = true) (hg : goodWord c = true) : c ∈ xW := List.mem_filter.mpr ⟨xat_use h, hg⟩
def xc (ρ : Nat → Nat) (dA : Nat → ClassId) : xE → va_E
  | .inl (t, a) => .inl (dA t, a)
  | .inr (ci, fs) => .inr (ci, fs.map (xv ρ))
def xtys (dA : Nat → ClassId) : List (ClassId × FieldType) := [(dA 0, .int), (dA 1, .long), (dA 2, .boolean), (dA 3, .char)]
theorem xtys_get (dA : Nat → ClassId) {t : Nat} (h : t < 4) : (xtys dA)[t]? = some (dA t, xtyA t) := by
  match t, h with
  | 0, _ => rfl
  | 1, _ => rfl
  | 2, _ => rfl
  | 3, _ => rfl
def xlive : xE → Bool
  | .inl (t, _) => Nat.blt t 4
  | .inr _ => true
theorem xpad_old {AH : List xE} {n k : Nat} {c z : xE} (h : AH[k]? = some z) : (xpad AH n c)[k]? = some z := by
  unfold xpad
  rw [List.append_assoc, List.getElem?_append_left (List.getElem?_eq_some_iff.mp h).1, h]
theorem xpad_len {AH : List xE} {n : Nat} {c : xE} (h : AH.length ≤ n) : (xpad AH n c).length = n + 1 := by
  unfold xpad
  rw [List.length_append, List.length_append, List.length_replicate]
  show _ + 1 = _
  omega
theorem xpad_new {AH : List xE} {n : Nat} {c : xE} (h : AH.length ≤ n) : (xpad AH n c)[n]? = some c := by
  unfold xpad
  rw [List.getElem?_append_right (by rw [List.length_append, List.length_replicate]; omega)]
  rw [List.length_append, List.length_replicate, show n - (AH.length + (n - AH.length)) = 0 by omega]
  rfl
theorem xpad_of {AH : List xE} {n k : Nat} {c z : xE} (h : AH.length ≤ n) (hk : (xpad AH n c)[k]? = some z) (hz : xlive z = true) : (AH[k]? = some z ∧ k < n) ∨ (k = n ∧ z = c) := by
  have hl := (List.getElem?_eq_some_iff.mp hk).1
  rw [xpad_len h] at hl
  by_cases e : k = n
  · subst e
    rw [xpad_new h] at hk
    exact Or.inr ⟨rfl, (Option.some.inj hk).symm⟩
  · refine Or.inl ⟨?_, by omega⟩
    unfold xpad at hk
    rw [List.getElem?_append_left (by rw [List.length_append, List.length_replicate]; omega)] at hk
    by_cases q : k < AH.length
    · rw [List.getElem?_append_left q] at hk
      exact hk
    · rw [List.getElem?_append_right (by omega)] at hk
      have := List.mem_of_getElem? hk
      rw [List.mem_replicate] at this
      rw [this.2] at hz
      cases hz
theorem xv_cat (ρ : Nat → Nat) (v : Value) : (xv ρ v).category = v.category := by cases v <;> rfl
theorem xv_cats (ρ : Nat → Nat) (l : List Value) : ((l.map (xv ρ)).map fun v => v.category).sum = (l.map fun v => v.category).sum := by
  rw [List.map_map]
  congr 1
  apply List.map_congr_left
  intro v _
  exact xv_cat ρ v
theorem xfit_use {ty : FieldType} {v : Value} (ρ : Nat → Nat) (h : xfit ty v = true) : narrow ty (xv ρ v) = xv ρ v ∧ fits ty (xv ρ v) = true := by
  cases ty <;> cases v <;> simp_all [xfit, xv, narrow, fits]
  rename_i y
  rcases h with h | h <;> subst h <;> decide
/-- the locals -/
def xLo (ρ : Nat → Nat) (L : xL) (ls : Array Slot) (nL : Nat) : Prop := ls.size = nL ∧ lv_wf ls ∧ ∀ (k : Nat) (v : Value), L[k]? = some (some v) → ls[k]? = some (.val (xv ρ v))
def xla (ρ : Nat → Nat) (L : xL) : List (Nat × Value) := (List.range L.length).filterMap (fun k => match L[k]? with | some (some v) => some (k, xv ρ v) | _ => none)
theorem xla_mem {ρ : Nat → Nat} {L : xL} {k : Nat} {v : Value} (h : L[k]? = some (some v)) : (k, xv ρ v) ∈ xla ρ L := by
  refine List.mem_filterMap.mpr ⟨k, List.mem_range.mpr (List.getElem?_eq_some_iff.mp h).1, ?_⟩
  simp only [h]
theorem xla_of {ρ : Nat → Nat} {L : xL} {q : Nat × Value} (h : q ∈ xla ρ L) : ∃ v, L[q.1]? = some (some v) ∧ q.2 = xv ρ v := by
  obtain ⟨k, -, hk⟩ := List.mem_filterMap.mp h
  split at hk
  · rename_i v hv
    cases hk
    exact ⟨v, hv, rfl⟩
  · cases hk
theorem xLo.has {ρ : Nat → Nat} {L : xL} {ls : Array Slot} {nL : Nat} (h : xLo ρ L ls nL) : lv_has ls nL (xla ρ L) := ⟨h.1, h.2.1, fun q hq => by
  obtain ⟨v, h1, h2⟩ := xla_of hq
  rw [h2]
  exact h.2.2 _ _ h1⟩
theorem xkill_get {L : xL} {i k : Nat} {v : Value} (h : (xkill L i)[k]? = some (some v)) : L[k]? = some (some v) ∧ ¬ (k + 1 = i ∧ v.category = 2) := by
  unfold xkill at h
  cases i with
  | zero => exact ⟨h, fun q => by omega⟩
  | succ j =>
    dsimp only at h
    split at h
    · rename_i x hx
      split at h
      · rename_i hc
        rw [List.getElem?_set] at h
        by_cases hjk : j = k
        · subst hjk
          simp only [if_true] at h
          split at h <;> cases h
        · rw [if_neg hjk] at h
          exact ⟨h, fun q => hjk (by omega)⟩
      · rename_i hc
        refine ⟨h, fun q => ?_⟩
        have : k = j := by omega
        subst this
        rw [h] at hx
        cases hx
        exact hc q.2
    · rename_i hx
      refine ⟨h, fun q => ?_⟩
      have : k = j := by omega
      subst this
      exact hx _ h
theorem xLo.set1 {ρ : Nat → Nat} {L : xL} {ls' : Array Slot} {nL i : Nat} {v w : Value} (hw : w = xv ρ v) (h : lv_has ls' nL ((i, w) :: (xla ρ L).filter (fun q => !(q.1 == i) && !(q.1 + 1 == i && q.2.category == 2)))) : xLo ρ (xset1 L i v) ls' nL := by
  refine ⟨h.1, h.2.1, fun k u hk => ?_⟩
  unfold xset1 at hk
  rw [List.getElem?_set] at hk
  by_cases hik : i = k
  · subst hik
    simp only [if_true] at hk
    split at hk
    · cases hk
      have := h.2.2 _ List.mem_cons_self
      rw [hw] at this
      exact this
    · cases hk
  · rw [if_neg hik] at hk
    obtain ⟨h1, h2⟩ := xkill_get hk
    refine h.2.2 (k, xv ρ u) (List.mem_cons_of_mem _ (List.mem_filter.mpr ⟨xla_mem h1, ?_⟩))
    simp only [Bool.and_eq_true, Bool.not_eq_true', beq_eq_false_iff_ne, ne_eq, Bool.and_eq_false_iff, xv_cat]
    refine ⟨fun q => hik q.symm, ?_⟩
    by_cases hk1 : k + 1 = i
    · exact Or.inr fun q => h2 ⟨hk1, q⟩
    · exact Or.inl hk1
theorem xLo.set2 {ρ : Nat → Nat} {L : xL} {ls' : Array Slot} {nL i : Nat} {v w : Value} (hw : w = xv ρ v) (h : lv_has ls' nL ((i, w) :: (xla ρ L).filter (fun q => !(q.1 == i) && (!(q.1 == i + 1) && !(q.1 + 1 == i && q.2.category == 2))))) : xLo ρ (xset2 L i v) ls' nL := by
  refine ⟨h.1, h.2.1, fun k u hk => ?_⟩
  unfold xset2 at hk
  rw [List.getElem?_set] at hk
  by_cases hik : i + 1 = k
  · subst hik
    simp only [if_true] at hk
    split at hk <;> cases hk
  · rw [if_neg hik, List.getElem?_set] at hk
    by_cases hik2 : i = k
    · subst hik2
      simp only [if_true] at hk
      split at hk
      · cases hk
        have := h.2.2 _ List.mem_cons_self
        rw [hw] at this
        exact this
      · cases hk
    · rw [if_neg hik2] at hk
      obtain ⟨h1, h2⟩ := xkill_get hk
      refine h.2.2 (k, xv ρ u) (List.mem_cons_of_mem _ (List.mem_filter.mpr ⟨xla_mem h1, ?_⟩))
      simp only [Bool.and_eq_true, Bool.not_eq_true', beq_eq_false_iff_ne, ne_eq, Bool.and_eq_false_iff, xv_cat]
      refine ⟨fun q => hik2 q.symm, fun q => hik q.symm, ?_⟩
      by_cases hk1 : k + 1 = i
      · exact Or.inr fun q => h2 ⟨hk1, q⟩
      · exact Or.inl hk1
theorem xLo.drop1 {ρ : Nat → Nat} {L : xL} {ls' : Array Slot} {nL i : Nat} {w : Value} (h : lv_has ls' nL ((i, w) :: (xla ρ L).filter (fun q => !(q.1 == i) && !(q.1 + 1 == i && q.2.category == 2)))) : xLo ρ ((xkill L i).set i none) ls' nL := by
  refine ⟨h.1, h.2.1, fun k u hk => ?_⟩
  rw [List.getElem?_set] at hk
  by_cases hik : i = k
  · subst hik
    simp only [if_true] at hk
    split at hk <;> cases hk
  · rw [if_neg hik] at hk
    obtain ⟨h1, h2⟩ := xkill_get hk
    refine h.2.2 (k, xv ρ u) (List.mem_cons_of_mem _ (List.mem_filter.mpr ⟨xla_mem h1, ?_⟩))
    simp only [Bool.and_eq_true, Bool.not_eq_true', beq_eq_false_iff_ne, ne_eq, Bool.and_eq_false_iff, xv_cat]
    refine ⟨fun q => hik q.symm, ?_⟩
    by_cases hk1 : k + 1 = i
    · exact Or.inr fun q => h2 ⟨hk1, q⟩
    · exact Or.inl hk1
/-- the entry's locals -/
theorem xlay_args (ρ : Nat → Nat) : ∀ (args : List Value) (b k : Nat) (v : Value), (xlay args)[k]? = some (some v) → (b + k, xv ρ v) ∈ lv_args b (args.map (xv ρ)) := by
  intro args
  induction args with
  | nil => intro b k v h; simp [xlay] at h
  | cons a r ih =>
    intro b k v h
    unfold xlay at h
    rw [List.map_cons]
    unfold lv_args
    rw [xv_cat]
    by_cases hc : a.category = 2
    · rw [if_pos hc] at h ⊢
      match k, h with
      | 0, h => cases h; exact List.mem_cons_self
      | 1, h => cases h
      | k + 2, h =>
        have h2 : (xlay r)[k]? = some (some v) := h
        have := ih (b + 2) k v h2
        rw [show b + (k + 2) = b + 2 + k by omega]
        exact List.mem_cons_of_mem _ this
    · rw [if_neg hc] at h ⊢
      match k, h with
      | 0, h => cases h; exact List.mem_cons_self
      | k + 1, h =>
        have h2 : (xlay r)[k]? = some (some v) := h
        have := ih (b + 1) k v h2
        rw [show b + (k + 1) = b + 1 + k by omega]
        exact List.mem_cons_of_mem _ this
theorem xlay_len (ρ : Nat → Nat) (args : List Value) : (lg_sl (args.map (xv ρ))).length = (xlay args).length := by
  induction args with
  | nil => rfl
  | cons a r ih =>
    have h1 : (lg_sl ((a :: r).map (xv ρ))) = (if (xv ρ a).category = 2 then [.val (xv ρ a), .second] else [.val (xv ρ a)]) ++ lg_sl (r.map (xv ρ)) := rfl
    have h2 : xlay (a :: r) = if a.category = 2 then some a :: none :: xlay r else some a :: xlay r := rfl
    rw [h1, h2, List.length_append, ih, xv_cat]
    by_cases hc : a.category = 2
    · simp [hc]; omega
    · simp [hc]; omega
theorem xLo.entry (ρ : Nat → Nat) (args : List Value) {n : Nat} (h : (xlay args).length ≤ n) : xLo ρ (xent n args) ((lg_sl (args.map (xv ρ)) ++ List.replicate (n - (lg_sl (args.map (xv ρ))).length) Slot.unset).toArray) n := by
  have h0 := lv_entry (args.map (xv ρ)) (n := n) (by rw [xlay_len]; exact h)
  refine ⟨h0.1, h0.2.1, fun k v hk => ?_⟩
  unfold xent at hk
  by_cases hl : k < (xlay args).length
  · rw [List.getElem?_append_left hl] at hk
    have := h0.2.2 _ (xlay_args ρ args 0 k v hk)
    rwa [Nat.zero_add] at this
  · rw [List.getElem?_append_right (by omega)] at hk
    have := List.mem_of_getElem? hk
    rw [List.mem_replicate] at this
    cases this.2

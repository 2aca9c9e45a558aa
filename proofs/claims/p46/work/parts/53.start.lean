/-! What is made at first: the office, the reference and the row of answers. -/
def xpre (S : Nat × (Nat → Int32)) : Nat → Nat → Nat → xF → xM → Option (xF × xM)
  | 0, _, _, F, M => some (F, M)
  | k + 1, d, i, F, M => match xcod i F.1 with
    | none => none
    | some x => match xkd x with
      | 0 => (match xone S x F M with
        | some r => xpre S k d i r.1 r.2
        | none => none)
      | 2 => (match d with
        | 0 => none
        | d' + 1 => bif xmay x F.2.2 M then
            (match xexec S 1000 d' x.2.2.1 (0, xent (xmd x.2.2.1).2.2.1 (xargs (xmd x.2.2.1).2.2.2.2.2.1 F.2.2), []) M with
            | some (.inr v, M') => xpre S k (d' + 1) i (F.1 + 3, F.2.1, v.toList ++ F.2.2.drop (xmd x.2.2.1).2.2.2.2.2.1) M'
            | _ => none) else none)
      | _ => none
theorem ev_pre {S : Nat × (Nat → Int32)} {d i : Nat} {F F' : xF} {M M' : xM} {r : xR} (k : Nat) (h : xpre S k d i F M = some (F', M')) (hE : Ev S d i F' M' r) : Ev S d i F M r := by
  induction k generalizing d F M with
  | zero => cases h; exact hE
  | succ k ih =>
    unfold xpre at h
    cases hc : xcod i F.1 with
    | none => rw [hc] at h; cases h
    | some x =>
      rw [hc] at h
      dsimp only at h
      split at h
      · rename_i hk
        split at h
        · rename_i r1 h1
          exact ev_one hc hk (by rw [h1]) (ih h hE)
        · cases h
      · rename_i hk
        split at h
        · cases h
        · rename_i d'
          cases hm : xmay x F.2.2 M with
          | false => rw [hm] at h; cases h
          | true =>
            rw [hm] at h
            dsimp only [cond_true] at h
            split at h
            · rename_i v M1 h1
              obtain ⟨n2, e2⟩ := ih h hE
              refine ⟨max 1000 n2 + 1, ?_⟩
              simp only [xexec, hc, hk, hm, cond_true]
              rw [xexec_le (Nat.le_max_left 1000 n2) h1]
              exact xexec_le (Nat.le_max_right 1000 n2) e2
            · cases h
      · cases h

/-- the digits changed, as often -/
def sg (k : Nat) : Nat := ([1, 5, 7, 6, 2, 8, 3, 0, 9, 4] : List Nat).getD k 0
def sgN : Nat → Nat → Nat
  | 0, x => x
  | n + 1, x => sg (sgN n x)
def cOk : Bool := match q_X6_init 0 (fun _ => 0) with
  | none => false
  | some f => (List.range 190).all (fun k => f k == nI (sgN (k / 10) (k % 10)))
theorem cOk_ok : cOk = true := by decide +kernel
theorem cO_ex : ∃ f, q_X6_init 0 (fun _ => 0) = some f ∧ ∀ k, k < 190 → f k = nI (sgN (k / 10) (k % 10)) := by
  have h := cOk_ok
  unfold cOk at h
  split at h
  · cases h
  · rename_i f hf
    refine ⟨f, hf, fun k hk => ?_⟩
    have := List.all_eq_true.mp h k (List.mem_range.mpr hk)
    exact of_decide_eq_true this
theorem set_of_xfr {H H' : List xE} {a : Nat} {c c0 : xE} (h0 : H[a]? = some c0) (h : H'[a]? = some c) (hf : xfr [a] H H') : H' = H.set a c := by
  apply List.ext_getElem?
  intro k
  by_cases hk : a = k
  · subst hk
    rw [hs_eq h0, h]
  · rw [hf k (xo_c hk rfl), List.getElem?_set, if_neg hk]

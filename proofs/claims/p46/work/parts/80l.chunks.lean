/-! Chunks end where they are cut, and nowhere else. -/
theorem ct_cut (B : Nat → Nat) (w st n : Nat) : ∀ i, (∀ j, j < (ct B w st n i).length → ∀ s, cst (ct B w st n i) j ≤ s → s < (ct B w st n i).getD j 0 → (cuB B w st n s = true ↔ s + 1 = (ct B w st n i).getD j 0)) ∧ (∀ s, cst (ct B w st n i) (ct B w st n i).length ≤ s → s < i → ¬ cuB B w st n s = true) := by
  intro i
  induction i with
  | zero => exact ⟨fun j h => absurd h (Nat.not_lt_zero j), fun s _ h => absurd h (Nat.not_lt_zero s)⟩
  | succ i ih =>
    obtain ⟨h1, h2⟩ := ih
    have e : ct B w st n (i + 1) = if cuB B w st n i = true then ct B w st n i ++ [i + 1] else ct B w st n i := rfl
    rw [e]
    by_cases c : cuB B w st n i = true
    · rw [if_pos c, List.length_append]
      show (∀ j, j < (ct B w st n i).length + 1 → _) ∧ (∀ s, cst (ct B w st n i ++ [i + 1]) ((ct B w st n i).length + 1) ≤ s → _)
      have ecst : ∀ j, j ≤ (ct B w st n i).length → cst (ct B w st n i ++ [i + 1]) j = cst (ct B w st n i) j := by
        intro j hj
        unfold cst
        by_cases z : j = 0
        · rw [if_pos z, if_pos z]
        · rw [if_neg z, if_neg z, getD_app (by omega)]
      refine ⟨fun j hj s s1 s2 => ?_, fun s s1 s2 => ?_⟩
      · rw [ecst j (by omega)] at s1
        by_cases q : j < (ct B w st n i).length
        · rw [getD_app q] at s2 ⊢
          exact h1 j q s s1 s2
        · have q : j = (ct B w st n i).length := by omega
          subst q
          rw [getD_end] at s2 ⊢
          by_cases z : s = i
          · subst z
            exact ⟨fun _ => rfl, fun _ => c⟩
          · exact ⟨fun y => absurd y (h2 s s1 (by omega)), fun y => by omega⟩
      · unfold cst at s1
        rw [if_neg (by omega), Nat.add_sub_cancel, getD_end] at s1
        omega
    · rw [if_neg c]
      refine ⟨h1, fun s s1 s2 => ?_⟩
      by_cases z : s = i
      · rw [z]; exact c
      · exact h2 s s1 (by omega)
theorem ct_last {B : Nat → Nat} {w st n : Nat} (h : 1 ≤ n) : cst (ct B w st n n) (ct B w st n n).length = n := by
  obtain ⟨m, rfl⟩ : ∃ m, n = m + 1 := ⟨n - 1, by omega⟩
  have e : ct B w st (m + 1) (m + 1) = if cuB B w st (m + 1) m = true then ct B w st (m + 1) m ++ [m + 1] else ct B w st (m + 1) m := rfl
  have c : cuB B w st (m + 1) m = true := by
    unfold cuB
    rw [beq_iff_eq.mpr (rfl : m + 1 = m + 1), Bool.or_true]
  rw [e, if_pos c, List.length_append]
  show cst _ ((ct B w st (m + 1) m).length + 1) = _
  unfold cst
  rw [if_neg (by omega), Nat.add_sub_cancel, getD_end]
section CHUNKS
variable {n w st : Nat} {B : Nat → Nat} {S : Nat × (Nat → Int32)} {a2 a34 a37 a38 a42 a43 a44 : Nat → Int32} {c33 c35 c36 c40 c41 : Int32}
theorem rollT {s : Nat} (h1 : 1 ≤ w) (h8 : w ≤ 8) (hn : n ≤ 64) (hs : s < n) (hw : w ≤ s + 1) (hB : ∀ k, k < n → B k < 256 ∧ a2 k = nI (B k)) : q_X11_rolling (nI s) (nI w) (nI n) a2 = some (.inr (nI (rV B w s % 65521)), ()) := by
  unfold q_X11_rolling
  rw [rpT hs (by omega), xbnd_r, winT h1 h8, xbnd_r, nI_pred' (by omega), if_pos (nI_le (by omega) (by omega)), rollC h1 h8 hw (show s < 64 by omega) (by omega) (fun k hk => hB k (by omega)), Option.bind_some]
theorem chunksT (h1 : 1 ≤ w) (h8 : w ≤ 8) (h2 : 2 ≤ st) (h64 : st ≤ 64) (hn : n ≤ 64) (hB : ∀ k, k < n → B k < 256 ∧ a2 k = nI (B k)) :
    ∃ c, q_X11_chunks (nI w) (nI st) c35 c36 (nI n) a37 a2 a38 = some (.inr (nI (ct B w st n n).length), c) ∧ True := by
  obtain ⟨g, e, e1, eg, e2⟩ := cutC (m := 64) (h := a37) (ae := a38) h1 h8 h2 h64 hn (by omega) (by omega) hB
  refine ⟨(nI (ct B w st n n).length, nI n, g, e), ?_, trivial⟩
  unfold q_X11_chunks
  rw [winT h1 h8, xbnd_r, stpT h2 h64, xbnd_r, e1, Option.bind_some]
  rfl
theorem chunkEndT {j : Nat} (h1 : 1 ≤ w) (h8 : w ≤ 8) (h2 : 2 ≤ st) (h64 : st ≤ 64) (hn : n ≤ 64) (hB : ∀ k, k < n → B k < 256 ∧ a2 k = nI (B k)) (hj : j < (ct B w st n n).length) :
    ∃ c, q_X11_chunkEnd (nI w) (nI st) (nI j) c35 c36 (nI n) a37 a2 a38 = some (.inr (nI ((ct B w st n n).getD j 0)), c) ∧ True := by
  obtain ⟨g, e, e1, eg, e2⟩ := cutC (m := 64) (h := a37) (ae := a38) h1 h8 h2 h64 hn (by omega) (by omega) hB
  have hl := ct_len B w st n n
  refine ⟨(nI (ct B w st n n).length, nI n, g, e), ?_, trivial⟩
  unfold q_X11_chunkEnd
  rw [winT h1 h8, xbnd_r, stpT h2 h64, xbnd_r, e1, Option.bind_some, if_neg (nI_pos (by omega)), if_pos (show nI j < t_X0_count (nI (ct B w st n n).length) from nI_lt hj (by omega)), endI e2 (by omega) hj]
theorem staysT {p v : Nat} (h1 : 1 ≤ w) (h8 : w ≤ 8) (h2 : 2 ≤ st) (h64 : st ≤ 64) (hn : n ≤ 64) (hB : ∀ k, k < n → B k < 256 ∧ a2 k = nI (B k)) (hp : p ≤ n) (hv : v < 256) :
    ∃ u c, q_X11_stays (nI w) (nI st) (nI p) (nI v) (nI n) c33 a34 a2 c35 c36 a37 a38 c40 c41 a42 a43 a44 = some (.inr u, c) ∧ ∃ k, k ≤ (ct B w st n n).length ∧ u = nI k := by
  obtain ⟨u, u1, u2⟩ := copyC (m0 := 65) (m1 := 64) (f := a34) (g := a2) (show n ≤ 65 by omega) hn (by omega) (by omega)
  obtain ⟨g, g1, g2⟩ := openC (v := nI v) (f := u) (m := 65) hp (by omega) (by decide) (by omega)
  obtain ⟨C, hCd⟩ : ∃ C : Nat → Nat, C = fun k => if k = p then v else if k < p then B k else B (k - 1) := ⟨_, rfl⟩
  have hC : ∀ k, k < n + 1 → C k < 256 ∧ g k = nI (C k) := by
    intro k hk
    rw [hCd, g2]
    by_cases c1 : k = p
    · simp only [if_pos c1]; exact ⟨hv, trivial⟩
    · simp only [if_neg c1]
      by_cases c2 : k < p
      · obtain ⟨b1, b2⟩ := hB k (by omega)
        simp only [if_pos c2]
        refine ⟨b1, ?_⟩
        rw [if_neg (by omega), u2, if_pos (by omega), b2]
      · obtain ⟨b1, b2⟩ := hB (k - 1) (by omega)
        simp only [if_neg c2]
        refine ⟨b1, ?_⟩
        rw [if_pos (by omega), u2, if_pos (by omega), b2]
  obtain ⟨o1g, e, e1, eg, e2⟩ := cutC (m := 64) (h := a37) (ae := a38) h1 h8 h2 h64 hn (by omega) (by omega) hB
  obtain ⟨o2g, e', e3, eg', e4⟩ := cutC (m := 65) (h := a42) (ae := a43) h1 h8 h2 h64 (show n + 1 ≤ 65 by omega) (by omega) (by omega) hC
  have hl := ct_len B w st n n
  have hl' := ct_len C w st (n + 1) (n + 1)
  obtain ⟨o, o1⟩ := countC (a44 := a44) (K := lk B C (ct B w st n n) (ct C w st (n + 1) (n + 1))) (N := (ct C w st (n + 1) (n + 1)).length) (n := (ct B w st n n).length) (by omega) (by omega) (fun i j hi hj => isLikeC e2 e4 (by omega) (by omega) (ct_ord B w st n n) (ct_ord C w st (n + 1) (n + 1)) hn (show n + 1 ≤ 65 by omega) (fun k hk => ⟨(hB k hk).1, eg k hk⟩) (fun k hk => ⟨(hC k hk).1, eg' k hk⟩) hi hj)
  have key : ∃ c, q_X11_stays (nI w) (nI st) (nI p) (nI v) (nI n) c33 a34 a2 c35 c36 a37 a38 c40 c41 a42 a43 a44 = some (.inr (nI (cS (lk B C (ct B w st n n) (ct C w st (n + 1) (n + 1))) (ct C w st (n + 1) (n + 1)).length (ct B w st n n).length).1), c) := by
    simp only [q_X11_stays, winT h1 h8, stpT h2 h64, rbT hv, poeT (show p < n + 1 by omega) (show n < 2147483647 by omega), xbnd, u1, Option.bind_some, g1, e1, nI_1, e3, o1]
    exact ⟨_, rfl⟩
  obtain ⟨c, hc⟩ := key
  exact ⟨_, c, hc, _, cS_le _ _ _, rfl⟩
theorem chunks60 {to fr : Nat} (h1 : 1 ≤ w) (h8 : w ≤ 8) (h2 : 2 ≤ st) (h64 : st ≤ 64) (hn : n ≤ 64) (ht : to ≤ n) (hB : ∀ k, k < n → B k < 256 ∧ a2 k = nI (B k)) (hc : ∀ s, fr ≤ s → s < to → (cuB B w st n s = true ↔ s + 1 = to)) :
    ∀ t s f, s + t = to → t < f → fr ≤ s → Sat (q_L_areChunks_L60 (nI w) (nI st) (nI to) (nI n) a2 (nI n) f (nI s)) fun _ => True := by
  intro t
  induction t with
  | zero =>
    intro s f hs hf _
    obtain ⟨f, rfl⟩ : ∃ g, f = g + 1 := ⟨f - 1, by omega⟩
    rw [q_L_areChunks_L60]
    exact sP (nI_le (by omega) (by omega)) ⟨_, rfl, trivial⟩
  | succ t ih =>
    intro s f hs hf hfr
    obtain ⟨f, rfl⟩ : ∃ g, f = g + 1 := ⟨f - 1, by omega⟩
    have go := ih (s + 1) f (by omega) (by omega) (by omega)
    have hcs := hc s hfr (by omega)
    rw [q_L_areChunks_L60, nI_1, nI_pred' (show 0 < to by omega), nI_pred' (show 0 < n by omega)]
    refine sN (nI_ge (by omega) (by omega)) ?_
    by_cases c : s + 1 < w
    · refine sP (nI_lt c (by omega)) ?_
      by_cases z : s = to - 1
      · rw [if_neg (show ¬ ¬ nI s = nI (to - 1) by rw [← z]; exact fun q => q rfl)]
        refine sN (by decide) ?_
        have hz := hcs.mpr (by omega)
        unfold cuB at hz
        rw [decide_eq_false (show ¬ w ≤ s + 1 by omega), Bool.false_and, Bool.false_or, beq_iff_eq] at hz
        exact sP (by rw [show n - 1 = s by omega]) go
      · rw [if_pos (ne_of_nI z (by omega) (by omega))]
        exact sP rfl go
    · refine sN (nI_nlt (by omega) (by omega)) ?_
      refine sxe (rollT h1 h8 hn (by omega) (by omega) hB) ?_
      have hr : rV B w s % 65521 < 65521 := Nat.mod_lt _ (by decide)
      have hcu : cuB B w st n s = ((rV B w s % 65521 % st == 0) || (s + 1 == n)) := by
        unfold cuB
        rw [decide_eq_true (show w ≤ s + 1 by omega), Bool.true_and]
      generalize rV B w s % 65521 = r at hr hcu ⊢
      have em : nI r - nI r / nI st * nI st = nI (r % st) := nI_mod (by omega) (by omega) (by omega)
      have hm : r % st < st := Nat.mod_lt _ (by omega)
      rw [em]
      refine sN (ne_of_nI (b := 0) (show st ≠ 0 by omega) (by omega) (by decide)) ?_
      by_cases q : r % st = 0
      · have hz : s + 1 = to := hcs.mp (by rw [hcu, beq_iff_eq.mpr q, Bool.true_or])
        rw [q, if_neg (show ¬ ¬ nI 0 = 0 from fun z => z rfl), if_neg (show ¬ ¬ nI s = nI (to - 1) by rw [show to - 1 = s by omega]; exact fun q => q rfl)]
        exact sP rfl go
      · rw [if_pos (show ¬ nI (r % st) = (0 : Int32) from ne_of_nI (b := 0) q (by omega) (by decide))]
        by_cases z : s = to - 1
        · rw [if_neg (show ¬ ¬ nI s = nI (to - 1) by rw [← z]; exact fun q => q rfl)]
          refine sN (by decide) ?_
          have hz := hcs.mpr (by omega)
          rw [hcu, Bool.or_eq_true, beq_iff_eq, beq_iff_eq] at hz
          rcases hz with hz | hz
          · exact absurd hz q
          · exact sP (by rw [show n - 1 = s by omega]) go
        · rw [if_pos (ne_of_nI z (by omega) (by omega))]
          exact sP rfl go
theorem chunks38 (h1 : 1 ≤ w) (h8 : w ≤ 8) (h2 : 2 ≤ st) (h64 : st ≤ 64) (hn : n ≤ 64) (hB : ∀ k, k < n → B k < 256 ∧ a2 k = nI (B k)) :
    ∀ t k f (c35 c36 : Int32) (a37 a38 : Nat → Int32), k + t = (ct B w st n n).length → t < f → Sat (q_L_areChunks_L38 (nI w) (nI st) (nI (ct B w st n n).length) (nI n) a2 (nI n) f (nI (cst (ct B w st n n) k)) (nI k) c35 c36 a37 a38) fun z => z.1 = nI (cst (ct B w st n n) (ct B w st n n).length) := by
  have hl := ct_len B w st n n
  intro t
  induction t with
  | zero =>
    intro k f c35 c36 a37 a38 hk hf
    obtain ⟨f, rfl⟩ : ∃ g, f = g + 1 := ⟨f - 1, by omega⟩
    have hk : k = (ct B w st n n).length := by omega
    rw [q_L_areChunks_L38, hk]
    exact sP (nI_le (Nat.le_refl _) (by omega)) ⟨_, rfl, rfl⟩
  | succ t ih =>
    intro k f c35 c36 a37 a38 hk hf
    obtain ⟨f, rfl⟩ : ∃ g, f = g + 1 := ⟨f - 1, by omega⟩
    obtain ⟨o1, o2⟩ := ct_ord B w st n n k (by omega)
    rw [q_L_areChunks_L38, nI_1]
    refine sN (nI_ge (by omega) (by omega)) ?_
    refine sx (chunkEndT h1 h8 h2 h64 hn hB (show k < (ct B w st n n).length by omega)) ?_
    intro y4 _
    refine sb (chunks60 (fr := cst (ct B w st n n) k) h1 h8 h2 h64 hn o2 hB ((ct_cut B w st n n).1 k (by omega)) ((ct B w st n n).getD k 0 - cst (ct B w st n n) k) _ 10000 (by omega) (by omega) (Nat.le_refl _)) ?_
    intro y7 _
    have ek : cst (ct B w st n n) (k + 1) = (ct B w st n n).getD k 0 := by
      unfold cst
      rw [if_neg (by omega), Nat.add_sub_cancel]
    have key := ih (k + 1) f y4.1 y4.2.1 y4.2.2.1 y4.2.2.2 (by omega) (by omega)
    rw [ek] at key
    exact key
theorem areChunksT (hS : S.1 ≤ 260) (hn : n ≤ 64) (h0 : 1 ≤ n) (hB : ∀ k, k < n → B k < 256 ∧ a2 k = nI (B k)) :
    Sat (q_L_areChunks S c35 c36 (nI n) a37 a2 a38 (nI n) c33 a34 c40 c41 a42 a43 a44) fun z => z.1 = 1 := by
  obtain ⟨u, hu, e1⟩ := someT hS (i := 126) (n := 8) (by omega) (by omega) (by omega)
  obtain ⟨v, hv, e2⟩ := someT hS (i := 127) (n := 8) (by omega) (by omega) (by omega)
  obtain ⟨p, hp, e3⟩ := someT hS (i := 128) (n := n + 1) (by omega) (by omega) (by omega)
  obtain ⟨b, hb, e4⟩ := someT hS (i := 129) (n := 256) (by omega) (by omega) (by omega)
  obtain ⟨w, hw⟩ : ∃ w, w = 1 + u := ⟨_, rfl⟩
  obtain ⟨st, hst⟩ : ∃ st, st = 2 + v := ⟨_, rfl⟩
  have ew : (1 : Int32) + nI u = nI w := by rw [k1, nI_add, hw]
  have es : (2 : Int32) + nI v = nI st := by rw [k2, nI_add, hst]
  have hl := ct_len B w st n n
  unfold q_L_areChunks
  refine se (x := nI u) e1 ?_
  refine se (x := nI v) e2 ?_
  rw [ew, es]
  refine sx (chunksT (by omega) (by omega) (by omega) (by omega) hn hB) ?_
  intro y6 _
  refine sb (chunks38 (by omega) (by omega) (by omega) (by omega) hn hB (ct B w st n n).length 0 10000 _ _ _ _ (by omega) (by omega)) ?_
  rintro ⟨l1, l2, l3, l4, l5, l6⟩ r9
  replace r9 : l1 = nI (cst (ct B w st n n) (ct B w st n n).length) := r9
  rw [ct_last h0] at r9
  subst r9
  rw [nI_1]
  refine se (x := nI p) e3 ?_
  refine se (x := nI b) e4 ?_
  refine sxv (staysT (by omega) (by omega) (by omega) (by omega) hn hB (by omega) hb) ?_
  rintro v18 y19 ⟨k, hk, rfl⟩
  refine sN (fun z => z rfl) ?_
  refine sN (nI_pos (by omega)) ?_
  refine sN (nI_nlt hk (by omega)) ?_
  exact ⟨_, rfl, rfl⟩
end CHUNKS

/-! The call beside. -/
def sib (k : Nat) : Nat := if k % 2 = 1 then k - 1 else k + 1
theorem sibC : ∀ i, i < 16 → ∀ k, k < 5 → (nI i >>> (nI k &&& 31)) ^^^ 1 = nI (sib (i / 2 ^ k)) := by decide +kernel
theorem sibM : ∀ k, k < 16 → t_X12_sibling (nI k) = nI (sib k) := by decide +kernel
theorem sib_le {k : Nat} (h : k < 16) : sib k ≤ 16 := by unfold sib; split <;> omega
theorem leafT {n i : Nat} (hn : n ≤ 64) (h : i < cnt n 0) : q_X11_requireLeaf (nI i) (nI n) = some (.inr (), ()) ∧ t_X12_in (nI i).toInt64 0 ((t_X12_leaves (nI n)) - 1).toInt64 = 1 := by
  have h16 := cnt_le hn 0
  refine ⟨?_, ?_⟩
  · unfold q_X11_requireLeaf
    rw [leavesC hn, if_neg (nI_pos (by omega)), if_pos (by rw [ltI, nI_toInt (by omega), nI_toInt (by omega)]; omega)]
  · rw [leavesT hn, nI_pred' (by omega)]
    exact in_T (by rw [tl, nI_toInt (by omega)]; show (0 : Int) ≤ _; omega) (by rw [tl, tl, nI_toInt (by omega), nI_toInt (by omega)]; omega)
theorem leafF {p : Int32} {n : Nat} (hn : n ≤ 64) (h : p.toInt < 0 ∨ (cnt n 0 : Int) ≤ p.toInt) : q_X11_requireLeaf p (nI n) = some (.inl 2, ()) ∧ t_X12_in p.toInt64 0 ((t_X12_leaves (nI n)) - 1).toInt64 = 0 := by
  have h16 := cnt_le hn 0
  refine ⟨?_, ?_⟩
  · unfold q_X11_requireLeaf
    rw [leavesC hn]
    by_cases c : p < 0
    · rw [if_pos c]
    · rw [if_neg c]
      rw [ltI, i0] at c
      rw [if_neg (by rw [ltI, nI_toInt (by omega)]; omega)]
  · rw [leavesT hn]
    by_cases z : cnt n 0 = 0
    · rw [z]
      exact in_F (by rw [tl, tl]; show _ < (0 : Int) ∨ (-1 : Int) < _; omega)
    · rw [nI_pred' (by omega)]
      exact in_F (by rw [tl, tl, nI_toInt (by omega)]; show _ < (0 : Int) ∨ _; omega)
/-- what stands beside: the sum, or -1 -/
def bsd (B : Nat → Nat) (n i q : Nat) : Int64 := if cnt n q ≤ sib (i / 2 ^ q) then -1 else lN (tV B n q (sib (i / 2 ^ q)))
theorem beside38 {n i : Nat} {B : Nat → Nat} {p2 c23 : Int32} (hn : n ≤ 64) (hi : i < 16) : ∀ t l f c a50 a65, cnt n l ≤ t → 1 ≤ cnt n l → l < 100 → t + l < 100 → t < f → (∀ j, j < cnt n l → a65 j = lN (tV B n l j)) →
    ∃ L, l ≤ L ∧ L < 100 ∧ cnt n L = 1 ∧ (∀ k, l ≤ k → k < L → 1 < cnt n k) ∧
      ((∃ q, l ≤ q ∧ q < L ∧ p2 = nI q ∧ ∃ r : Int32 × (Nat → Int32) × (Nat → Int64), q_X12_beside_L38 p2 f (nI (cnt n l)) (nI (i / 2 ^ l)) (nI l) c c23 a50 a65 = some (.inr (bsd B n i q, r.1, 0, r.2.1, r.2.2))) ∨
       ((∀ q, l ≤ q → q < L → p2 ≠ nI q) ∧ ∃ r, q_X12_beside_L38 p2 f (nI (cnt n l)) (nI (i / 2 ^ l)) (nI l) c c23 a50 a65 = some (.inl r))) := by
  intro t
  induction t with
  | zero => intro l f c a50 a65 h1 h2; omega
  | succ t ih =>
    intro l f c a50 a65 h1 h2 h100 htl hf hv
    obtain ⟨f, rfl⟩ : ∃ g, f = g + 1 := ⟨f - 1, by omega⟩
    have h16 := cnt_le hn l
    have hd : i / 2 ^ l ≤ i := Nat.div_le_self _ _
    by_cases c1 : cnt n l = 1
    · refine ⟨l, Nat.le_refl l, h100, c1, fun k h1 h2 => by omega, Or.inr ⟨fun q h1 h2 => by omega, (nI (cnt n l), nI (i / 2 ^ l), nI l, c, c23, a50, a65), ?_⟩⟩
      rw [q_X12_beside_L38, if_pos (show nI (cnt n l) ≤ 1 by rw [c1]; decide)]
    · have hgt : ¬ nI (cnt n l) ≤ 1 := by rw [leI, nI_toInt (by omega), show (1 : Int32).toInt = 1 from rfl]; omega
      obtain ⟨s1, s2⟩ := cnt_step (n := n) (l := l) (by omega)
      obtain ⟨c', g, h, e1, e2⟩ := goesUpM (W := tV B n (l + 1)) (c := c) (a50 := a50) h16 (fun j hj => ⟨tV_lt B n l j, hv j hj⟩) (fun j _ => rfl)
      obtain ⟨L, l1, l2, l3, l4, l5⟩ := ih (l + 1) f c' h g (by omega) s2 (by omega) (by omega) (by omega) e2
      refine ⟨L, by omega, l2, l3, fun k k1 k2 => ?_, ?_⟩
      · by_cases e : k = l
        · subst e; omega
        · exact l4 k (by omega) k2
      · by_cases c2 : p2 = nI l
        · left
          refine ⟨l, Nat.le_refl l, by omega, c2, (c, a50, a65), ?_⟩
          have hs := sib_le (k := i / 2 ^ l) (by omega)
          rw [q_X12_beside_L38, if_neg hgt, if_neg (fun h => h c2.symm), sibM _ (by omega)]
          unfold bsd
          by_cases c3 : cnt n l ≤ sib (i / 2 ^ l)
          · rw [if_pos (nI_le c3 (by omega)), if_pos c3]
            rfl
          · rw [if_neg (nI_ge (by omega) (by omega)), if_neg c3, if_pos (xinI (by omega) (by omega)), nI_clamp (by omega), hv _ (by omega)]
            rfl
        · have e3 : nI (i / 2 ^ l) / 2 = nI (i / 2 ^ (l + 1)) := by rw [show (2 : Int32) = nI 2 from rfl, nI_div (by omega) (by omega) (by omega), Nat.div_div_eq_div_mul, Nat.pow_succ]
          have step : q_X12_beside_L38 p2 (f + 1) (nI (cnt n l)) (nI (i / 2 ^ l)) (nI l) c c23 a50 a65 = q_X12_beside_L38 p2 f (nI (cnt n (l + 1))) (nI (i / 2 ^ (l + 1))) (nI (l + 1)) c' c23 h g := by
            rw [q_X12_beside_L38, if_neg hgt, if_pos (fun h => c2 h.symm), e1, Option.bind_some, e3, nI_1]
            rfl
          rcases l5 with ⟨q, q1, q2, q3, r, r1⟩ | ⟨q1, r, r1⟩
          · exact Or.inl ⟨q, by omega, q2, q3, r, by rw [step]; exact r1⟩
          · refine Or.inr ⟨fun q h1 h2 => ?_, r, by rw [step]; exact r1⟩
            by_cases e : q = l
            · subst e; exact c2
            · exact q1 q (by omega) h2
theorem M_40 : MS_40 := by
  intro S l4 c1_1 a2 a46 a47 c45_2 a66 c48_17 c48_18 c48_23 a49 a50 a65 c3_1 c3_2 c4_0 a5 a6 c48_20 a52 c8_0 c8_1 c8_2 c8_3 c8_4 c8_5 c48_24 c48_25 c48_26 c48_27 c48_28 c7_0 c7_1 c7_2 c7_3 c7_4 c7_5 a10 a11 a53 c17_1 a18 c48_21 a57 c23_4 c24_0 a25 a26 c48_22 a58 a22 x1 x2 x3 x4 x5 hB hP hK h7 hS hD hW hC
  obtain ⟨n, B, hn, rfl, rfl, hb⟩ := hB
  unfold q_case40
  generalize S.2 (l4 + (1 : Int32)).toNatClampNeg = p1
  generalize S.2 (l4 + (2 : Int32)).toNatClampNeg = p2
  have h16 := cnt_le hn 0
  have hc : cnt n 0 = (n + 3) / 4 := rfl
  rcases cls p1 (n := cnt n 0) (by omega) with ⟨i, hi, rfl⟩ | hF
  · obtain ⟨t1, t2⟩ := leafT hn hi
    obtain ⟨L, l1, l2, l3, g, h, g1, g2⟩ := growC (a46 := a46) (a47 := a47) hn (by omega) (fun k hk => ⟨(hb k hk).1, (hb k hk).2.1⟩)
    obtain ⟨c', g', h', f1, f2⟩ := layLeavesM (c := c48_18) (a50 := a50) (a65 := a65) hn (fun k hk => ⟨(hb k hk).1, (hb k hk).2.2⟩)
    obtain ⟨M, m1, m0, m2, m3, m4⟩ := beside38 (B := B) (p2 := p2) (c23 := c48_23) hn (show i < 16 by omega) 16 0 10000 c' g' h' h16 (by omega) (by omega) (by omega) (by omega) f2
    have hLM := cnt_uniq l2 l3 m2 (fun k hk => m3 k (Nat.zero_le k) hk)
    subst hLM
    have est : t_X9_steps (nI (L + 1)) = nI L := by unfold t_X9_steps; rw [nI_pred' (by omega), Nat.add_sub_cancel]
    rw [Nat.pow_zero, Nat.div_one] at m4
    rcases m4 with ⟨q, -, q2, rfl, r, r1⟩ | ⟨q1, r, r1⟩
    · have r1 : q_X12_beside_L38 (nI q) 10000 (nI (cnt n 0)) (nI i) 0 c' c48_23 g' h' = _ := r1
      have hsb := sib_le (k := i / 2 ^ q) (by have := Nat.div_le_self i (2 ^ q); omega)
      have hcq := cnt_le hn q
      have eb : t_X9_sumBeside (nI i) (nI q) h g = bsd B n i q := by
        unfold t_X9_sumBeside bsd
        rw [if_neg (nI_pos (by omega)), if_neg (nI_ge (by omega) (by omega)), nI_clamp (by omega), (g2 q (by omega)).1, sibC i (by omega) q (by omega)]
        by_cases c3 : cnt n q ≤ sib (i / 2 ^ q)
        · rw [if_pos (nI_le c3 (by omega)), if_pos c3]
        · rw [if_neg (nI_ge (by omega) (by omega)), if_neg c3, sumT (by omega), (g2 q (by omega)).2 _ (by omega)]
      have e1 : q_X11_beside (nI i) (nI q) (nI n) a2 a46 a47 c45_2 = some (.inr (bsd B n i q), (g, h, nI (L + 1))) := by
        unfold q_X11_beside
        rw [t1]
        simp only [xbnd, g1, Option.bind_some, est, eb]
        rw [if_neg (nI_pos (by omega)), if_pos (by rw [ltI, nI_toInt (by omega), nI_toInt (by omega)]; omega)]
      have e2 : q_X12_beside (nI i) (nI q) (nI n) c48_18 c48_23 a49 a50 a65 = some (bsd B n i q, r.1, 0, r.2.1, r.2.2) := by
        unfold q_X12_beside
        rw [t2, ite10, f1, Option.bind_some, leavesT hn, r1]
        rfl
      simp only [x1, x2, if_true, q_L_beside, e1, xbnd, Option.bind_some, e2, t_X12_thrown, ite00, c0, updL_eq, lgs]
      exact ⟨_, rfl⟩
    · have r1 : q_X12_beside_L38 p2 10000 (nI (cnt n 0)) (nI i) 0 c' c48_23 g' h' = _ := r1
      have e1 : q_X11_beside (nI i) p2 (nI n) a2 a46 a47 c45_2 = some (.inl 3, (g, h, nI (L + 1))) := by
        unfold q_X11_beside
        rw [t1]
        simp only [xbnd, g1, Option.bind_some, est]
        by_cases c3 : p2 < 0
        · rw [if_pos c3]
        · rw [if_neg c3]
          by_cases c4 : p2 < nI L
          · rcases cls p2 (n := L) (by omega) with ⟨q, hq, rfl⟩ | h5
            · exact absurd rfl (q1 q (Nat.zero_le q) hq)
            · rw [ltI, i0] at c3
              rw [ltI, nI_toInt (by omega)] at c4
              omega
          · rw [if_neg c4]
      have e2 : ∃ u : Int32 × (Nat → Int32) × (Nat → Int64), q_X12_beside (nI i) p2 (nI n) c48_18 c48_23 a49 a50 a65 = some ((t_X12_fails 2).1.toInt64, u.1, (t_X12_fails 2).2, u.2.1, u.2.2) := by
        refine ⟨(r.2.2.2.1, r.2.2.2.2.2.1, r.2.2.2.2.2.2), ?_⟩
        unfold q_X12_beside
        rw [t2, ite10, f1, Option.bind_some, leavesT hn, r1]
        rfl
      obtain ⟨u, e2⟩ := e2
      simp only [x1, x2, if_true, q_L_beside, e1, xbnd, Option.bind_some, e2, t_X12_fails, t_X12_thrown]
      exact ⟨_, rfl⟩
  · obtain ⟨t1, t2⟩ := leafF hn hF
    have e1 : q_X11_beside p1 p2 (nI n) a2 a46 a47 c45_2 = some (.inl 2, (a46, a47, c45_2)) := by
      unfold q_X11_beside
      rw [t1]; rfl
    have e2 : q_X12_beside p1 p2 (nI n) c48_18 c48_23 a49 a50 a65 = some ((t_X12_fails 1).1.toInt64, c48_18, (t_X12_fails 1).2, a50, a65) := by
      unfold q_X12_beside
      rw [t2, ite00]
    simp only [x1, x2, if_true, q_L_beside, e1, xbnd, Option.bind_some, e2, t_X12_fails, t_X12_thrown]
    exact ⟨_, rfl⟩

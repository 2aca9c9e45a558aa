/-! The call isSound. -/
theorem lib7 {n : Nat} {B : Nat → Nat} {a2 : Nat → Int32} (hn : n ≤ 64) (hB : ∀ k, k < n → B k < 256 ∧ a2 k = nI (B k)) : q_X1_sumOf 0 (nI n) 32 517762881 (-1) (-1) 1 1 a2 = some (lN (outS 32 1 lE (reg 32 lP 1 B 0 lE n))) := by
  have := sumI (w := 32) (p := lP) (s := lE) (e := lE) (mi := 1) (mo := 1) (a := 0) (b := n) (B := B) (a2 := a2) (by decide) (by decide) (by decide) (by decide) (by decide) (by decide) (by decide) (Nat.zero_le n) hn hB
  rw [Nat.sub_zero] at this
  rw [show (-1 : Int32) = nI lE by decide]
  exact this
theorem joinsE {w p s e mi mo n : Nat} {B : Nat → Nat} {a2 : Nat → Int32} (h1 : 1 ≤ w) (h : w ≤ 32) (hp : p < 2 ^ w) (hs : s < 2 ^ w) (he : e < 2 ^ w) (hmi : mi < 2) (hmo : mo < 2) (hn : n ≤ 64) (hB : ∀ k, k < n → B k < 256 ∧ a2 k = nI (B k)) : q_X11_joinsEverywhere (nI n) (nI w) (nI p) (nI s) (nI e) (nI mi) (nI mo) a2 = some 1 := by
  have e1 := sumI h1 h hp hs he hmi hmo (Nat.zero_le n) hn (B := B) (a2 := a2) hB
  rw [Nat.sub_zero] at e1
  have e1 : q_X1_sumOf 0 (nI n) (nI w) (nI p) (nI s) (nI e) (nI mi) (nI mo) a2 = _ := e1
  obtain ⟨r, hr, z, g⟩ := loop_inv (F := fun f (z : Int32) => q_X11_joinsEverywhere_L22 (lN (outS w mo e (reg w p mi B 0 s n))) (nI n) (nI w) (nI p) (nI s) (nI e) (nI mi) (nI mo) a2 f z)
    (fun j z => z = nI j) (fun r => ∃ z, r = Sum.inl z) (n + 1)
    (fun f z h => by
      subst h
      refine ⟨Sum.inl (nI (n + 1)), ?_, _, rfl⟩
      show q_X11_joinsEverywhere_L22 _ _ _ _ _ _ _ _ _ (f + 1) (nI (n + 1)) = _
      rw [q_X11_joinsEverywhere_L22, show t_X5_size (nI n) = nI n from rfl, if_pos (nI_lt (by omega) (by omega))])
    (fun f j z hj hz => by
      subst hz
      refine Or.inr ⟨nI (j + 1), ?_, rfl⟩
      have e2 := joinSum h1 h hp hs he hmi hmo (show j ≤ n by omega) hn hB
      have g : ¬ nI n < nI j := fun q => by have := (nI_ltI (by omega) (by omega)).mp q; omega
      show q_X11_joinsEverywhere_L22 _ _ _ _ _ _ _ _ _ (f + 1) (nI j) = q_X11_joinsEverywhere_L22 _ _ _ _ _ _ _ _ _ f (nI (j + 1))
      rw [q_X11_joinsEverywhere_L22, show t_X5_size (nI n) = nI n from rfl, if_neg g, e2, Option.bind_some, lgs, if_pos rfl, nI_1])
    10000 0 (nI 0) rfl (Nat.zero_le _) (by omega)
  have hr' : q_X11_joinsEverywhere_L22 (lN (outS w mo e (reg w p mi B 0 s n))) (nI n) (nI w) (nI p) (nI s) (nI e) (nI mi) (nI mo) a2 10000 0 = some r := hr
  unfold q_X11_joinsEverywhere
  rw [show t_X5_size (nI n) = nI n from rfl, e1, Option.bind_some, hr', g]
  rfl
theorem forgesI {n : Nat} {B : Nat → Nat} {a2 : Nat → Int32} (hn : n ≤ 64) (hB : ∀ k, k < n → B k < 256 ∧ a2 k = nI (B k)) : q_X11_forgesItself (lN (outS 32 1 lE (reg 32 lP 1 B 0 lE n))) (nI n) a2 = some 1 := by
  unfold q_X11_forgesItself
  rw [show t_X5_size (nI n) = nI n from rfl]
  by_cases c : 4 ≤ n
  · rw [if_pos (show (4 : Int32) ≤ nI n from nI_le (a := 4) c (by omega))]
    obtain ⟨v, v1, v2, v3⟩ := forgeC (x := 0) (a2 := a2) (show 0 + 4 ≤ n by omega) hn (lib_lt (B := B) (a := 0) (s := lE) (n := n) (by decide)) hB
    have b0 := (hB 0 (by omega)).1
    have b1 := (hB 1 (by omega)).1
    have b2 := (hB 2 (by omega)).1
    have b3 := (hB 3 (by omega)).1
    obtain ⟨f1, f2, f3, f4⟩ := by4 b0 b1 b2 b3
    have hbw : ∀ k, k < 4 → bw (16777216 * B 0 + (65536 * B 1 + (256 * B 2 + B 3))) k = B k := by
      intro k hk
      unfold bw
      have h0 : ∀ X : Nat, X / 2 ^ (24 - 8 * 0) % 256 = X / 16777216 % 256 := fun X => rfl
      have h1 : ∀ X : Nat, X / 2 ^ (24 - 8 * 1) % 256 = X / 65536 % 256 := fun X => rfl
      have h2 : ∀ X : Nat, X / 2 ^ (24 - 8 * 2) % 256 = X / 256 % 256 := fun X => rfl
      have h3 : ∀ X : Nat, X / 2 ^ (24 - 8 * 3) % 256 = X / 1 % 256 := fun X => rfl
      match k, hk with
      | 0, _ => rw [h0, f1, Nat.mod_eq_of_lt b0]
      | 1, _ => rw [h1, f2]
      | 2, _ => rw [h2, f3]
      | 3, _ => rw [h3, Nat.div_one, f4]
    have hs : sW B 0 n (16777216 * B 0 + (65536 * B 1 + (256 * B 2 + B 3))) = outS 32 1 lE (reg 32 lP 1 B 0 lE n) := by
      unfold sW
      rw [reg_congr (B := wB B 0 (16777216 * B 0 + (65536 * B 1 + (256 * B 2 + B 3)))) (C := B) n (fun k _ => by
        show (if 0 ≤ 0 + k ∧ 0 + k < 0 + 4 then bw _ (0 + k - 0) else B (0 + k)) = B (0 + k)
        rw [Nat.zero_add]
        by_cases h : 0 ≤ k ∧ k < 0 + 4
        · rw [if_pos h, Nat.sub_zero, hbw k (by omega)]
        · rw [if_neg h])]
    have ev := sW_inj (fun k hk => (hB k hk).1) (show 0 + 4 ≤ n by omega) v1 (show 16777216 * B 0 + (65536 * B 1 + (256 * B 2 + B 3)) < 4294967296 by omega) (v3.trans hs.symm)
    rw [← ev] at hbw
    have v2 : q_X2_forgedWord 0 (lN (outS 32 1 lE (reg 32 lP 1 B 0 lE n))) a2 (nI n) = _ := v2
    obtain ⟨r, hr, z, g⟩ := loop_inv (F := fun f (z : Int32) => q_X11_forgesItself_L26 (nI v) a2 f z)
      (fun j z => z = nI j) (fun r => ∃ z, r = Sum.inl z) 4
      (fun f z h => by
        subst h
        refine ⟨Sum.inl (nI 4), ?_, _, rfl⟩
        show q_X11_forgesItself_L26 _ _ (f + 1) (nI 4) = _
        rw [q_X11_forgesItself_L26, if_pos (by decide)])
      (fun f j z hj hz => by
        subst hz
        refine Or.inr ⟨nI (j + 1), ?_, rfl⟩
        show q_X11_forgesItself_L26 _ _ (f + 1) (nI j) = q_X11_forgesItself_L26 _ _ f (nI (j + 1))
        rw [q_X11_forgesItself_L26, if_neg (show ¬ (4 : Int32) ≤ nI j from nI_ge (b := 4) hj (by decide)), bwC v1 hj, hbw j hj, atI (by omega) (by decide), (hB j (by omega)).2, if_pos rfl, nI_1])
      10000 0 (nI 0) rfl (Nat.zero_le _) (by omega)
    have hr' : q_X11_forgesItself_L26 (nI v) a2 10000 0 = some r := hr
    rw [v2, Option.bind_some, hr', g]
    rfl
  · rw [if_neg (show ¬ (4 : Int32) ≤ nI n from nI_ge (b := 4) (by omega) (by decide))]
theorem seesC {n : Nat} {D : Nat → Nat} {a18 a22 : Nat → Int32} (hn : n ≤ 18) (hC : ICo a22) (hD : ∀ k, k < n → D k < 10 ∧ a18 k = nI (D k)) (c : Int32) (a : Nat → Int32) : ∃ c' a', q_X11_schemesSee (nI n) a18 a22 c a = some (1, c', a') := by
  unfold q_X11_schemesSee
  rw [show t_X5_size (nI n) = nI n from rfl]
  by_cases h0 : n = 0
  · subst h0
    exact ⟨c, a, by rw [if_neg (show ¬ ¬ nI 0 = (0 : Int32) from fun h => h rfl)]⟩
  · rw [if_pos (nz h0 (by omega))]
    have hd : ∀ i, i < n → D i < 10 := fun i hi => (hD i hi).1
    obtain ⟨r, hr, z, g⟩ := loop_inv (F := fun f (z : Int32 × Int32 × (Nat → Int32)) => q_X11_schemesSee_L21 (nI 4) (nI n) a18 a22 f z.1 z.2.1 z.2.2)
      (fun j z => z.1 = nI j) (fun r => ∃ z, r = Sum.inl z) 4
      (fun f z h => by
        obtain ⟨z1, z2, z3⟩ := z
        have h : z1 = _ := h
        subst h
        refine ⟨Sum.inl (nI 4, z2, z3), ?_, _, rfl⟩
        show q_X11_schemesSee_L21 _ _ _ _ (f + 1) (nI 4) z2 z3 = _
        rw [q_X11_schemesSee_L21, if_pos (by decide)])
      (fun f j z hj h => by
        obtain ⟨z1, z2, z3⟩ := z
        have h : z1 = _ := h
        subst h
        have hsc : ∃ sc : Int32, ([108, 101, 110, 116] : List Int32).getD j 0 = sc ∧ (sc = 108 ∨ sc = 101 ∨ sc = 110 ∨ sc = 116) := by
          match j, hj with
          | 0, _ => exact ⟨108, rfl, Or.inl rfl⟩
          | 1, _ => exact ⟨101, rfl, Or.inr (Or.inl rfl)⟩
          | 2, _ => exact ⟨110, rfl, Or.inr (Or.inr (Or.inl rfl))⟩
          | 3, _ => exact ⟨116, rfl, Or.inr (Or.inr (Or.inr rfl))⟩
        obtain ⟨sc, s1, s2⟩ := hsc
        obtain ⟨c1, a1, e1⟩ := unC (x2 := 115) s2 (Or.inl rfl) hn (by omega) hC hD z2 z3
        rw [sees1 s2 hd] at e1
        by_cases c : sc = 108
        · refine Or.inr ⟨(nI (j + 1), c1, a1), ?_, rfl⟩
          show q_X11_schemesSee_L21 _ _ _ _ (f + 1) (nI j) z2 z3 = q_X11_schemesSee_L21 _ _ _ _ f (nI (j + 1)) c1 a1
          rw [q_X11_schemesSee_L21, if_neg (nI_ge hj (by decide)), if_pos (xinI hj (by decide)), nI_clamp (by omega)]
          simp only [s1, e1, Option.bind_some, if_true, if_pos c, nI_1]
        · obtain ⟨c2, a2, e2⟩ := unC (x2 := 110) s2 (Or.inr (Or.inl rfl)) hn (by omega) hC hD c1 a1
          rw [sees2 (s2.resolve_left c) hd] at e2
          refine Or.inr ⟨(nI (j + 1), c2, a2), ?_, rfl⟩
          show q_X11_schemesSee_L21 _ _ _ _ (f + 1) (nI j) z2 z3 = q_X11_schemesSee_L21 _ _ _ _ f (nI (j + 1)) c2 a2
          rw [q_X11_schemesSee_L21, if_neg (nI_ge hj (by decide)), if_pos (xinI hj (by decide)), nI_clamp (by omega)]
          simp only [s1, e1, e2, Option.bind_some, if_true, if_neg c, nI_1])
      10000 0 (nI 0, c, a) rfl (Nat.zero_le _) (by omega)
    have hr' : q_X11_schemesSee_L21 (nI 4) (nI n) a18 a22 10000 0 c a = some r := hr
    refine ⟨z.2.1, z.2.2, ?_⟩
    rw [hr', g]
    rfl

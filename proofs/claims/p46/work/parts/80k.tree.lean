/-! The tree behind a leaf's change; what the change is undone to. -/
theorem treeU {B B' : Nat → Nat} {n i v : Nat} (hi : i < cnt n 0) (h0 : ∀ j, j < cnt n 0 → tV B' n 0 j = rC B n i v 0 j) : ∀ l j, j < cnt n l → tV B' n l j = rC B n i v l j := by
  intro l
  induction l with
  | zero => exact h0
  | succ l ih =>
    intro j hj
    replace hj : j < (cnt n l + 1) / 2 := hj
    rw [rC_up hi j (by omega)]
    show (if 2 * j + 1 < cnt n l then pr (tV B' n l (2 * j)) (tV B' n l (2 * j + 1)) else tV B' n l (2 * j)) = _
    by_cases c : 2 * j + 1 < cnt n l
    · rw [if_pos c, if_pos c, ih _ (by omega), ih _ c]
    · rw [if_neg c, if_neg c, ih _ (by omega)]
theorem treeTop {B B' : Nat → Nat} {n i v L : Nat} (hi : i < cnt n 0) (h0 : ∀ j, j < cnt n 0 → tV B' n 0 j = rC B n i v 0 j) (hL : cnt n L = 1) : tV B' n L 0 = zC B n i v L := by
  rw [treeU hi h0 L 0 (by omega)]
  have hp := path_lt hi L
  rw [hL] at hp
  have e : i / 2 ^ L = 0 := Nat.lt_one_iff.mp hp
  unfold rC
  rw [if_pos e.symm]
def Wd (C : Nat → Nat) : Nat → Nat
  | 0 => 0
  | j + 1 => 256 * Wd C j + C j
theorem Wd_lt {C : Nat → Nat} (h : ∀ k, C k < 256) : ∀ j, Wd C j < 256 ^ j := by
  intro j
  induction j with
  | zero => show 0 < 256 ^ 0; decide
  | succ j ih =>
    have := h j
    show 256 * Wd C j + C j < 256 ^ (j + 1)
    rw [Nat.pow_succ]
    omega
theorem Wd_bw {C : Nat → Nat} (h : ∀ k, C k < 256) : ∀ k, k < 4 → bw (Wd C 4) k = C k := by
  have h0 := h 0
  have h1 := h 1
  have h2 := h 2
  have h3 := h 3
  have e : Wd C 4 = 256 * (256 * (256 * (256 * 0 + C 0) + C 1) + C 2) + C 3 := rfl
  intro k hk
  unfold bw
  rw [e]
  rcases (show k = 0 ∨ k = 1 ∨ k = 2 ∨ k = 3 by omega) with rfl | rfl | rfl | rfl
  · show _ / 2 ^ 24 % 256 = _; omega
  · show _ / 2 ^ 16 % 256 = _; omega
  · show _ / 2 ^ 8 % 256 = _; omega
  · show _ / 2 ^ 0 % 256 = _; omega
section TREE
variable {n i x p q L : Nat} {B : Nat → Nat} {S : Nat × (Nat → Int32)} {a2 a49 a5 a6 a47 : Nat → Int32} {a46 : Nat → Int64} {c45 : Int32}
theorem rootT (hn : n ≤ 64) (h0 : 1 ≤ n) (hB : ∀ k, k < n → B k < 256 ∧ a2 k = nI (B k)) (hL : cnt n L = 1) (hL2 : ∀ k, k < L → 1 < cnt n k) :
    ∃ c, q_X11_root (nI n) a2 a46 a47 c45 = some (.inr (lN (tV B n L 0)), c) ∧ True := by
  obtain ⟨M, l1, l2, l3, g, h, g1, g2⟩ := growC (a46 := a46) (a47 := a47) hn h0 hB
  have hLM := cnt_uniq hL hL2 l2 l3
  subst hLM
  have et : t_X9_topSum (nI (L + 1)) g = lN (tV B n L 0) := by
    unfold t_X9_topSum
    rw [nI_pred' (by omega), Nat.add_sub_cancel]
    have := sumT (l := L) (i := 0) (a := g) (by omega)
    rw [show (0 : Int32) = nI 0 from rfl, this]
    exact (g2 L (Nat.le_refl L)).2 0 (by omega)
  refine ⟨(g, h, nI (L + 1)), ?_, trivial⟩
  unfold q_X11_root t_X5_size
  rw [if_pos (show ¬ nI n = (0 : Int32) from ne_of_nI (b := 0) (show n ≠ 0 by omega) (by omega) (by decide)), g1, Option.bind_some, et]
theorem climbT (hn : n ≤ 64) (hi : i < cnt n 0) (hx : x < 4294967296) (hB : ∀ k, k < n → B k < 256 ∧ a2 k = nI (B k)) (hL : cnt n L = 1) (hL2 : ∀ k, k < L → 1 < cnt n k) :
    ∃ c, q_X11_climbed (nI i) (nI x) (nI n) a2 a46 a47 c45 = some (.inr (lN (zC B n i (wS x (min n (4 * i + 4) - 4 * i)) L)), c) ∧ True := by
  have h16 := cnt_le hn 0
  have hc : cnt n 0 = (n + 3) / 4 := rfl
  obtain ⟨M, l1, l2, l3, g, h, g1, g2⟩ := growC (a46 := a46) (a47 := a47) hn (by omega) hB
  have hLM := cnt_uniq hL hL2 l2 l3
  subst hLM
  have t1 : q_X11_requireLeaf (nI i) (nI n) = some (.inr (), ()) := by
    unfold q_X11_requireLeaf
    rw [leavesC hn, if_neg (nI_pos (by omega)), if_pos (by rw [ltI, nI_toInt (by omega), nI_toInt (by omega)]; omega)]
  have k1' : (4 : Int32) * nI i = nI (4 * i) := nI_mul 4 i
  have ew : (if nI n - nI (4 * i) < 4 then nI n - nI (4 * i) else 4) = nI (min n (4 * i + 4) - 4 * i) := by
    rw [nI_sub (by omega)]
    by_cases c : n - 4 * i < 4
    · rw [if_pos (by rw [ltI, nI_toInt (by omega), show (4 : Int32).toInt = 4 from rfl]; omega), show min n (4 * i + 4) - 4 * i = n - 4 * i by omega]
    · rw [if_neg (by rw [ltI, nI_toInt (by omega), show (4 : Int32).toInt = 4 from rfl]; omega), show min n (4 * i + 4) - 4 * i = 4 by omega]
      rfl
  have hws := wS_lt x (min n (4 * i + 4) - 4 * i)
  have ewc := wordC (x := x) (n := min n (4 * i + 4) - 4 * i) hx (by omega)
  generalize wS x (min n (4 * i + 4) - 4 * i) = v at hws ewc ⊢
  have e6 := with6 (B := B) (v := v) hn (show i < 16 by omega) hws l1 g2 (fun q hq => besideC hn (by omega) l1 g2 q hq)
  refine ⟨(g, h, nI (L + 1)), ?_, trivial⟩
  unfold q_X11_climbed t_X5_size
  rw [t1, k1', ew]
  simp only [xbnd, g1, Option.bind_some, ewc, e6]
theorem tree44 (hn : n ≤ 64) (hi : i < cnt n 0) (hB : ∀ k, k < n → B k < 256 ∧ a49 k = nI (B k)) :
    Sat (q_L_isTree_L44 (nI i) (nI n) a49 10000 0 0) fun z => ∃ y, y < 4294967296 ∧ z.1 = nI y ∧ ∀ k, k < 4 → 4 * i + k < n → bw y k = B (4 * i + k) := by
  have h16 := cnt_le hn 0
  obtain ⟨C, hC⟩ : ∃ C : Nat → Nat, C = fun k => if 4 * i + k < n then B (4 * i + k) else 0 := ⟨_, rfl⟩
  have hC2 : ∀ k, C k < 256 := by
    intro k
    rw [hC]
    show (if _ then _ else _) < 256
    by_cases c : 4 * i + k < n
    · rw [if_pos c]; exact (hB _ c).1
    · rw [if_neg c]; decide
  obtain ⟨r, hr, g⟩ := loop_inv (F := fun f (y : Int32 × Int32) => q_L_isTree_L44 (nI i) (nI n) a49 f y.1 y.2)
    (fun j y => y = (nI (Wd C j), nI j)) (fun r => r.1 = nI (Wd C 4)) 4
    (fun f y hy => by
      subst hy
      exact ⟨_, by show q_L_isTree_L44 _ _ _ (f + 1) (nI _) (nI 4) = _; rw [q_L_isTree_L44, if_pos (by decide)], rfl⟩)
    (fun f j y hj hy => by
      subst hy
      refine Or.inr ⟨_, ?_, rfl⟩
      show q_L_isTree_L44 _ _ _ (f + 1) (nI (Wd C j)) (nI j) = q_L_isTree_L44 _ _ _ f (nI (Wd C (j + 1))) (nI (j + 1))
      have e4 : (4 : Int32) * nI i + nI j = nI (4 * i + j) := by rw [show (4 : Int32) * nI i = nI (4 * i) from nI_mul 4 i, nI_add]
      have e8 : nI (Wd C j) <<< ((8 : Int32) &&& 31) = nI (Wd C j * 2 ^ 8) := by rw [k8, nI_shl _ (by omega)]
      have eW : ∀ c, c = C j → nI (Wd C j * 2 ^ 8) ||| nI c = nI (Wd C (j + 1)) := by
        intro c hc
        have hc2 := hC2 j
        rw [nI_or, Nat.or_comm, or_add (show c < 2 ^ 8 by rw [hc]; exact hc2), hc]
        rfl
      rw [q_L_isTree_L44, if_neg (show ¬ (4 : Int32) ≤ nI j from nI_ge (b := 4) hj (by decide)), e4, e8, nI_1]
      by_cases c : n ≤ 4 * i + j
      · have := eW 0 (by rw [hC]; exact (if_neg (by omega)).symm)
        replace this : nI (Wd C j * 2 ^ 8) ||| 0 = nI (Wd C (j + 1)) := this
        rw [if_pos (nI_le c (by omega)), this]
      · rw [if_neg (nI_ge (by omega) (by omega)), if_pos (xinI (by omega) (by omega)), nI_clamp (by omega), (hB _ (by omega)).2, eW _ (by rw [hC]; exact (if_pos (by omega)).symm)])
    10000 0 (nI 0, nI 0) rfl (Nat.zero_le _) (by omega)
  have hr' : q_L_isTree_L44 (nI i) (nI n) a49 10000 0 0 = some r := hr
  refine ⟨r, hr', Wd C 4, ?_, g, fun k hk hkn => ?_⟩
  · have := Wd_lt hC2 4
    omega
  · rw [Wd_bw hC2 k hk, hC]
    exact if_pos hkn
def vR (B : Nat → Nat) (i x j t : Nat) : Nat := if 4 * i ≤ t ∧ t < 4 * i + j then bw x (t - 4 * i) else B t
theorem tree113 {m : Nat} (hn : n ≤ 64) (hx : x < 4294967296) (hm : m = min n (4 * i + 4) - 4 * i) (hi : 4 * i < n) (hp : p < 10) (hq : q ≤ 10) (hB : ∀ k, k < n → B k < 256) :
    ∀ t k f (a2 a6 a5 : Nat → Int32), k + t = m → t < f → (∀ j, j < n → a2 j = nI (vR B i x k j)) → (∀ j, j < k → SL a5 a6 ((p + j) % 10) n (fun t => nI (vR B i x j t))) →
      Sat (q_L_isTree_L113 (nI i) (nI x) (nI n) (nI n) (nI 64) f (nI k) (nI k) a2 (nI ((p + k) % 10)) (nI (min (q + k) 10)) a6 a5) fun z => z.1 = nI m ∧ (∀ j, j < n → z.2.2.1 j = nI (vR B i x m j)) ∧ z.2.2.2.1 = nI ((p + m) % 10) ∧ z.2.2.2.2.1 = nI (min (q + m) 10) ∧ ∀ j, j < m → SL z.2.2.2.2.2.2 z.2.2.2.2.2.1 ((p + j) % 10) n (fun t => nI (vR B i x j t)) := by
  intro t
  induction t with
  | zero =>
    intro k f a2 a6 a5 hk hf h hs
    obtain ⟨f, rfl⟩ : ∃ g, f = g + 1 := ⟨f - 1, by omega⟩
    have hk : k = m := by omega
    subst hk
    have e4 : (4 : Int32) * nI i + nI k = nI (4 * i + k) := by rw [show (4 : Int32) * nI i = nI (4 * i) from nI_mul 4 i, nI_add]
    rw [q_L_isTree_L113, e4]
    by_cases c : k = 4
    · exact sP (show (4 : Int32) ≤ nI k by rw [c]; decide) ⟨_, rfl, rfl, h, rfl, rfl, hs⟩
    · refine sN (show ¬ (4 : Int32) ≤ nI k from nI_ge (b := 4) (by omega) (by decide)) ?_
      exact sP (nI_le (by omega) (by omega)) ⟨_, rfl, rfl, h, rfl, rfl, hs⟩
  | succ t ih =>
    intro k f a2 a6 a5 hk hf h hs
    obtain ⟨f, rfl⟩ : ∃ g, f = g + 1 := ⟨f - 1, by omega⟩
    have e4 : (4 : Int32) * nI i + nI k = nI (4 * i + k) := by rw [show (4 : Int32) * nI i = nI (4 * i) from nI_mul 4 i, nI_add]
    have eb : (xus (nI x) ((24 : Int32) - (8 : Int32) * nI k)) &&& 255 = nI (bw x k) := bwC hx (by omega)
    obtain ⟨a6', a5', f1, s1, s2⟩ := putT (a6 := a6) (a5 := a5) (a2 := a2) (p := (p + k) % 10) (q := min (q + k) 10) (x := 4 * i + k) (v := bw x k) (by omega) (by omega) hn (by omega) (bw_lt x k)
    have ep : ((p + k) % 10 + 1) % 10 = (p + (k + 1)) % 10 := by omega
    have eq : min (min (q + k) 10 + 1) 10 = min (q + (k + 1)) 10 := by omega
    rw [ep, eq, h _ (show 4 * i + k < n by omega)] at f1
    have hv : vR B i x k (4 * i + k) < 256 := by
      unfold vR
      rw [if_neg (by omega)]
      exact hB _ (by omega)
    rw [q_L_isTree_L113, e4, eb, nI_1]
    refine sN (show ¬ (4 : Int32) ≤ nI k from nI_ge (b := 4) (by omega) (by decide)) ?_
    refine sN (nI_ge (by omega) (by omega)) ?_
    refine se f1 ?_
    have ec : nI k + (if nI (vR B i x k (4 * i + k)) < (0 : Int32) then (0 : Int32) else 1) = nI (k + 1) := by
      rw [if_neg (nI_pos (by omega)), nI_1]
    show Sat (q_L_isTree_L113 _ _ _ _ _ f (nI k + (if nI (vR B i x k (4 * i + k)) < (0 : Int32) then (0 : Int32) else 1)) (nI (k + 1)) (upd a2 (4 * i + k) (nI (bw x k))) (nI ((p + (k + 1)) % 10)) (nI (min (q + (k + 1)) 10)) a6' a5') _
    rw [ec]
    refine ih (k + 1) f _ a6' a5' (by omega) (by omega) (fun j hj => ?_) (fun j hj => ?_)
    · by_cases e : j = 4 * i + k
      · subst e
        rw [upd_eq]
        unfold vR
        rw [if_pos (by omega), Nat.add_sub_cancel_left]
      · rw [upd_ne e, h j hj]
        unfold vR
        by_cases c : 4 * i ≤ j ∧ j < 4 * i + k
        · rw [if_pos c, if_pos (by omega)]
        · rw [if_neg c, if_neg (by omega)]
    · by_cases e : j = k
      · subst e
        exact ⟨s1.1, fun t ht => (s1.2 t ht).trans (h t ht)⟩
      · exact s2 _ n _ (by omega) (by omega) hn (hs j (by omega))
theorem tree196 {m : Nat} (hn : n ≤ 64) (hm : m ≤ 4) (hp : p < 10) (hq : q ≤ 10) (hs : ∀ j, j < m → SL a5 a6 ((p + j) % 10) n (fun t => nI (vR B i x j t))) :
    ∀ j d f (a2 : Nat → Int32), d + j = m → j < f → (∀ t, t < n → a2 t = nI (vR B i x j t)) →
      Sat (q_L_isTree_L196 (nI m) (nI n) (nI 64) a6 a5 f 1 (nI d) (nI n) a2 (nI ((p + j) % 10)) (nI (min (q + m) 10 - d))) fun z => z.1 = 1 ∧ z.2.2.1 = nI n ∧ (∀ t, t < n → z.2.2.2.1 t = nI (B t)) ∧ z.2.2.2.2.1 = nI p ∧ ∃ q', q' ≤ 10 ∧ z.2.2.2.2.2 = nI q' := by
  intro j
  induction j with
  | zero =>
    intro d f a2 hd hf h
    obtain ⟨f, rfl⟩ : ∃ g, f = g + 1 := ⟨f - 1, by omega⟩
    have hd : d = m := by omega
    subst hd
    rw [q_L_isTree_L196]
    refine sP (nI_le (Nat.le_refl _) (by omega)) ⟨_, rfl, rfl, rfl, fun t ht => ?_, ?_, _, by omega, rfl⟩
    · show a2 t = _
      rw [h t ht]
      unfold vR
      rw [if_neg (by omega)]
    · show nI ((p + 0) % 10) = nI p
      rw [show (p + 0) % 10 = p by omega]
  | succ j ih =>
    intro d f a2 hd hf h
    obtain ⟨f, rfl⟩ : ∃ g, f = g + 1 := ⟨f - 1, by omega⟩
    have ep : ((p + (j + 1)) % 10 + 9) % 10 = (p + j) % 10 := by omega
    obtain ⟨g, u1, u2⟩ := undoT (a6 := a6) (a5 := a5) (a2 := a2) (c := nI n) (n := n) (R := fun t => nI (vR B i x j t)) (p := (p + (j + 1)) % 10) (q := min (q + m) 10 - d) (by omega) (by omega) (by omega) hn (by rw [ep]; exact hs j (by omega))
    rw [ep, show min (q + m) 10 - d - 1 = min (q + m) 10 - (d + 1) by omega] at u1
    rw [q_L_isTree_L196, nI_1]
    refine sN (nI_ge (by omega) (by omega)) ?_
    refine se u1 ?_
    have e1 : (1 : Int32) &&& (if ¬ nI n = nI n then (0 : Int32) else 1) = 1 := by
      rw [if_neg (fun z => z rfl)]
      rfl
    show Sat (q_L_isTree_L196 _ _ _ _ _ f ((1 : Int32) &&& (if ¬ nI n = nI n then (0 : Int32) else 1)) (nI (d + 1)) (nI n) g (nI ((p + j) % 10)) (nI (min (q + m) 10 - (d + 1)))) _
    rw [e1]
    exact ih (d + 1) f g (by omega) (by omega) u2
set_option maxHeartbeats 1000000 in
theorem isTreeT (hS : S.1 ≤ 260) (hn : n ≤ 64) (h0 : 1 ≤ n) (hp : p < 10) (hq : q ≤ 10) (hB : ∀ k, k < n → B k < 256 ∧ a2 k = nI (B k) ∧ a49 k = nI (B k)) :
    Sat (q_L_isTree S (nI n) (nI n) a2 a46 a47 c45 a49 (nI p) (nI q) (nI 64) a6 a5) fun z => z.1 = 1 ∧ z.2.1 = nI n ∧ ∀ k, k < n → z.2.2.1 k = nI (B k) := by
  have hB1 : ∀ k, k < n → B k < 256 := fun k hk => (hB k hk).1
  have hB2 : ∀ k, k < n → B k < 256 ∧ a2 k = nI (B k) := fun k hk => ⟨(hB k hk).1, (hB k hk).2.1⟩
  have hB3 : ∀ k, k < n → B k < 256 ∧ a49 k = nI (B k) := fun k hk => ⟨(hB k hk).1, (hB k hk).2.2⟩
  have h16 := cnt_le hn 0
  have hc : cnt n 0 = (n + 3) / 4 := rfl
  have en : (nI n + (3 : Int32)) / (4 : Int32) = nI (cnt n 0) := by rw [k3, k4, nI_add, nI_div (by omega) (by omega) (by omega), hc]
  obtain ⟨i, hi, e1⟩ := someT hS (i := 124) (n := cnt n 0) (by omega) (by omega) (by omega)
  obtain ⟨x, e2⟩ := cellT hS (i := 125) (by omega)
  obtain ⟨x, hx, rfl⟩ := nI_any x
  obtain ⟨L, -, hL, hL2, -⟩ := growC (a46 := a46) (a47 := a47) hn h0 hB2
  obtain ⟨m, hm⟩ : ∃ m, m = min n (4 * i + 4) - 4 * i := ⟨_, rfl⟩
  have lvl : ∀ (B' : Nat → Nat) (y : Nat), (∀ k, k < m → bw y k = B' (4 * i + k)) → (∀ t, t < n → ¬ (4 * i ≤ t ∧ t < 4 * i + 4) → B' t = B t) → ∀ j, j < cnt n 0 → tV B' n 0 j = rC B n i (wS y m) 0 j := by
    intro B' y h1 h2 j hj
    unfold rC
    rw [Nat.pow_zero, Nat.div_one]
    by_cases c : j = i
    · subst c
      rw [if_pos rfl]
      show outS 32 1 lE (reg 32 lP 1 B' (4 * j) lE (min n (4 * j + 4) - 4 * j)) = outS 32 1 lE (reg 32 lP 1 (bw y) 0 lE m)
      rw [← hm, reg_shift m h1]
    · rw [if_neg c]
      show outS 32 1 lE (reg 32 lP 1 B' (4 * j) lE (min n (4 * j + 4) - 4 * j)) = outS 32 1 lE (reg 32 lP 1 B (4 * j) lE (min n (4 * j + 4) - 4 * j))
      rw [reg_congr _ (fun k hk => h2 _ (by omega) (by omega))]
  unfold q_L_isTree
  rw [en]
  refine se (x := nI i) e1 ?_
  refine se (x := nI x) e2 ?_
  refine sx (rootT hn h0 hB2 hL hL2) ?_
  intro y6 _
  refine sx (climbT hn hi hx hB2 hL hL2) ?_
  intro y12 _
  rw [← hm]
  refine sb (tree44 hn hi hB3) ?_
  rintro ⟨y, l⟩ ⟨y', hy, rfl, hyb⟩
  refine sx (climbT hn hi hy hB2 hL hL2) ?_
  intro y23 _
  rw [← hm]
  have same : zC B n i (wS y' m) L = tV B n L 0 := (treeTop hi (lvl B y' (fun k hk => hyb k (by omega) (by omega)) (fun _ _ _ => rfl)) hL).symm
  rw [same]
  refine sP (lgs _) ?_
  have h113 := tree113 (p := p) (q := q) hn hx hm (by omega) hp hq hB1 m 0 5 a2 a6 a5 (by omega) (by omega) (fun j hj => by
    rw [(hB j hj).2.1]
    unfold vR
    rw [if_neg (by omega)]) (fun j hj => absurd hj (Nat.not_lt_zero j))
  rw [show (p + 0) % 10 = p by omega, show min (q + 0) 10 = q by omega] at h113
  refine sb h113 ?_
  rintro ⟨w1, w2, w3, w4, w5, w6, w7⟩ ⟨rfl, g3, rfl, rfl, gs⟩
  replace g3 : ∀ j, j < n → w3 j = nI (vR B i x m j) := g3
  have hV : ∀ k, k < n → vR B i x m k < 256 ∧ w3 k = nI (vR B i x m k) := fun k hk => ⟨by
    unfold vR
    by_cases c : 4 * i ≤ k ∧ k < 4 * i + m
    · rw [if_pos c]; exact bw_lt _ _
    · rw [if_neg c]; exact hB1 k hk, g3 k hk⟩
  refine sx (rootT (B := vR B i x m) hn h0 hV hL hL2) ?_
  intro y34 _
  have then1 : tV (vR B i x m) n L 0 = zC B n i (wS x m) L := treeTop hi (lvl _ x (fun k hk => by
    unfold vR
    rw [if_pos (by omega), Nat.add_sub_cancel_left]) (fun t ht hz => by
    unfold vR
    rw [if_neg (by omega)])) hL
  rw [then1]
  have ei : (if ¬ lg_cmp (lN (zC B n i (wS x m) L)) (lN (zC B n i (wS x m) L)) = (0 : Int32) then (0 : Int32) else 1) = 1 := if_neg (fun z => z (lgs _))
  rw [ei]
  have h196 := tree196 (B := B) (i := i) (x := x) (p := p) (q := q) hn (by omega) hp hq gs m 0 5 w3 (by omega) (by omega) g3
  rw [Nat.sub_zero] at h196
  refine sb h196 ?_
  rintro ⟨v1, v2, v3, v4, v5, v6⟩ ⟨rfl, rfl, g4, rfl, q', hq', rfl⟩
  replace g4 : ∀ t, t < n → v4 t = nI (B t) := g4
  refine sN (show ¬ (1 : Int32) = 0 by decide) ?_
  refine sx (rootT hn h0 (fun k hk => ⟨hB1 k hk, g4 k hk⟩) hL hL2) ?_
  intro y45 _
  refine sN (fun z => z (lgs _)) ?_
  exact ⟨_, rfl, rfl, rfl, g4⟩
end TREE

/-! The call climbed. -/
def zC (B : Nat → Nat) (n i v : Nat) : Nat → Nat
  | 0 => v
  | l + 1 => if cnt n l ≤ sib (i / 2 ^ l) then zC B n i v l else if i / 2 ^ l % 2 = 1 then pr (tV B n l (sib (i / 2 ^ l))) (zC B n i v l) else pr (zC B n i v l) (tV B n l (sib (i / 2 ^ l)))
def rC (B : Nat → Nat) (n i v l j : Nat) : Nat := if j = i / 2 ^ l then zC B n i v l else tV B n l j
theorem zC_lt {B : Nat → Nat} {n i v : Nat} (hv : v < 4294967296) : ∀ l, zC B n i v l < 4294967296 := by
  intro l
  induction l with
  | zero => exact hv
  | succ l ih =>
    show (if _ then _ else _) < _
    split
    · exact ih
    · split <;> exact pr_lt _ _
theorem rC_lt {B : Nat → Nat} {n i v : Nat} (hv : v < 4294967296) (l j : Nat) : rC B n i v l j < 4294967296 := by
  unfold rC
  split
  · exact zC_lt hv l
  · exact tV_lt B n l j
theorem path_lt {n i : Nat} (hi : i < cnt n 0) : ∀ l, i / 2 ^ l < cnt n l := by
  intro l
  induction l with
  | zero => rw [Nat.pow_zero, Nat.div_one]; exact hi
  | succ l ih =>
    rw [Nat.pow_succ, ← Nat.div_div_eq_div_mul]
    show i / 2 ^ l / 2 < (cnt n l + 1) / 2
    omega
theorem rC_up {B : Nat → Nat} {n i v l : Nat} (hi : i < cnt n 0) (j : Nat) (hj : 2 * j < cnt n l) : rC B n i v (l + 1) j = if 2 * j + 1 < cnt n l then pr (rC B n i v l (2 * j)) (rC B n i v l (2 * j + 1)) else rC B n i v l (2 * j) := by
  have hp := path_lt hi l
  have e2 : i / 2 ^ (l + 1) = i / 2 ^ l / 2 := by rw [Nat.pow_succ, ← Nat.div_div_eq_div_mul]
  unfold rC
  rw [e2]
  show (if j = i / 2 ^ l / 2 then (if cnt n l ≤ sib (i / 2 ^ l) then zC B n i v l else if i / 2 ^ l % 2 = 1 then pr (tV B n l (sib (i / 2 ^ l))) (zC B n i v l) else pr (zC B n i v l) (tV B n l (sib (i / 2 ^ l)))) else (if 2 * j + 1 < cnt n l then pr (tV B n l (2 * j)) (tV B n l (2 * j + 1)) else tV B n l (2 * j))) = _
  generalize i / 2 ^ l = a at *
  by_cases c : j = a / 2
  · rw [if_pos c]
    unfold sib
    by_cases o : a % 2 = 1
    · have ea : a = 2 * j + 1 := by omega
      rw [if_pos o, if_neg (by omega), if_pos o, if_pos (by omega), if_neg (by omega), if_pos (by omega), show a - 1 = 2 * j by omega]
    · have ea : a = 2 * j := by omega
      rw [if_neg o]
      by_cases c2 : 2 * j + 1 < cnt n l
      · rw [if_neg (by omega), if_neg o, if_pos c2, if_pos (by omega), if_neg (by omega), show a + 1 = 2 * j + 1 by omega]
      · rw [if_pos (by omega), if_neg c2, if_pos (by omega)]
  · rw [if_neg c]
    by_cases c2 : 2 * j + 1 < cnt n l
    · rw [if_pos c2, if_pos c2, if_neg (by omega), if_neg (by omega)]
    · rw [if_neg c2, if_neg c2, if_neg (by omega)]
theorem bitC : ∀ i, i < 16 → ∀ k, k < 5 → (nI i >>> (nI k &&& 31)) &&& 1 = nI (i / 2 ^ k % 2) := by decide +kernel
theorem with6 {B : Nat → Nat} {n i v L : Nat} {g : Nat → Int64} {h : Nat → Int32} (hn : n ≤ 64) (hi : i < 16) (hv : v < 4294967296) (hL : L ≤ 4) (hT : TR B n L g h) (hb : ∀ q, q < L → t_X9_sumBeside (nI i) (nI q) h g = bsd B n i q) :
    q_X9_topSumWith (nI i) (lN v) (nI (L + 1)) h g = some (lN (zC B n i v L)) := by
  have est : t_X9_steps (nI (L + 1)) = nI L := by unfold t_X9_steps; rw [nI_pred' (by omega), Nat.add_sub_cancel]
  obtain ⟨r, hr, e⟩ := loop_inv (F := fun f (z : Int64 × Int32) => q_X9_topSumWith_L6 (nI i) (nI (L + 1)) h g f z.1 z.2)
    (fun j z => z = (lN (zC B n i v j), nI j)) (fun r => r.1 = lN (zC B n i v L)) L
    (fun f z hz => by
      subst hz
      exact ⟨_, by show q_X9_topSumWith_L6 _ _ _ _ (f + 1) (lN _) (nI L) = _; rw [q_X9_topSumWith_L6, est, if_pos (nI_le (Nat.le_refl _) (by omega))], rfl⟩)
    (fun f j z hj hz => by
      subst hz
      refine Or.inr ⟨_, ?_, rfl⟩
      have hz := zC_lt (B := B) (n := n) (i := i) hv j
      have ht := tV_lt B n j (sib (i / 2 ^ j))
      show q_X9_topSumWith_L6 _ _ _ _ (f + 1) (lN _) (nI j) = q_X9_topSumWith_L6 _ _ _ _ f (lN (zC B n i v (j + 1))) (nI (j + 1))
      rw [q_X9_topSumWith_L6, est, if_neg (nI_ge hj (by omega)), hb j hj, nI_1]
      unfold bsd
      by_cases c : cnt n j ≤ sib (i / 2 ^ j)
      · rw [if_pos c, if_pos lg_m1, show zC B n i v (j + 1) = zC B n i v j from if_pos c]
      · rw [if_neg c, if_neg (lg_nn (by omega)), bitC i hi j (by omega)]
        by_cases o : i / 2 ^ j % 2 = 1
        · have ez : zC B n i v (j + 1) = pr (tV B n j (sib (i / 2 ^ j))) (zC B n i v j) := by rw [zC, if_neg c, if_pos o]
          rw [o, if_pos (show ¬ nI 1 = 0 by decide), pairC ht hz, Option.bind_some, ez]
        · have ez : zC B n i v (j + 1) = pr (zC B n i v j) (tV B n j (sib (i / 2 ^ j))) := by rw [zC, if_neg c, if_neg o]
          rw [show i / 2 ^ j % 2 = 0 by omega, if_neg (show ¬ ¬ nI 0 = 0 from fun h => h rfl), pairC hz ht, Option.bind_some, ez])
    10000 0 (lN v, nI 0) rfl (Nat.zero_le _) (by omega)
  have hr' : q_X9_topSumWith_L6 (nI i) (nI (L + 1)) h g 10000 (lN v) 0 = some r := hr
  unfold q_X9_topSumWith
  rw [hr', Option.bind_some, e]
theorem climb88 {n i v : Nat} {B : Nat → Nat} (hn : n ≤ 64) (hi : i < cnt n 0) (hvv : v < 4294967296) : ∀ t l f c a50 a65, cnt n l ≤ t → 1 ≤ cnt n l → t < f → (∀ j, j < cnt n l → a65 j = lN (rC B n i v l j)) →
    ∃ L, l ≤ L ∧ cnt n L = 1 ∧ (∀ k, l ≤ k → k < L → 1 < cnt n k) ∧ ∃ r : Int32 × Int32 × (Nat → Int32) × (Nat → Int64), q_X12_climbed_L88 f (nI (cnt n l)) c a50 a65 = some r ∧ r.2.2.2 0 = lN (zC B n i v L) := by
  intro t
  induction t with
  | zero => intro l f c a50 a65 h1 h2; omega
  | succ t ih =>
    intro l f c a50 a65 h1 h2 hf hv
    obtain ⟨f, rfl⟩ : ∃ g, f = g + 1 := ⟨f - 1, by omega⟩
    have h16 := cnt_le hn l
    by_cases c1 : cnt n l = 1
    · have hp := path_lt hi l
      refine ⟨l, Nat.le_refl l, c1, fun k h1 h2 => by omega, (nI (cnt n l), c, a50, a65), ?_, ?_⟩
      · rw [q_X12_climbed_L88, if_pos (by rw [c1]; decide)]
      · show a65 0 = _
        rw [hv 0 (by omega)]
        unfold rC
        rw [c1] at hp
        rw [if_pos (Nat.lt_one_iff.mp hp).symm]
    · obtain ⟨s1, s2⟩ := cnt_step (n := n) (l := l) (by omega)
      obtain ⟨c', g, h, e1, e2⟩ := goesUpM (W := rC B n i v (l + 1)) (c := c) (a50 := a50) h16 (fun j hj => ⟨rC_lt hvv l j, hv j hj⟩) (fun j hj => rC_up hi j hj)
      obtain ⟨L, l1, l2, l3, r, r1, r2⟩ := ih (l + 1) f c' h g (by omega) s2 (by omega) e2
      refine ⟨L, by omega, l2, fun k k1 k2 => ?_, r, ?_, r2⟩
      · by_cases e : k = l
        · subst e; omega
        · exact l3 k (by omega) k2
      · rw [q_X12_climbed_L88, if_neg (show ¬ nI (cnt n l) ≤ 1 by rw [leI, nI_toInt (by omega), show (1 : Int32).toInt = 1 from rfl]; omega), e1, Option.bind_some]
        exact r1
theorem climb48 {x m : Nat} {a50 : Nat → Int32} (hx : x < 4294967296) (hm : m ≤ 4) : ∃ r : Int32 × (Nat → Int32), q_X12_climbed_L48 (nI x) (nI m) 10000 0 a50 = some r ∧ ∀ k, k < m → r.2 k = nI (bw x k) := by
  obtain ⟨r, hr, g⟩ := loop_inv (F := fun f (z : Int32 × (Nat → Int32)) => q_X12_climbed_L48 (nI x) (nI m) f z.1 z.2)
    (fun j z => z.1 = nI j ∧ ∀ k, k < j → z.2 k = nI (bw x k)) (fun r => ∀ k, k < m → r.2 k = nI (bw x k)) m
    (fun f z h => by
      obtain ⟨c, a⟩ := z
      obtain ⟨e1, e2⟩ := h
      have e1 : c = nI m := e1
      subst e1
      exact ⟨_, by show q_X12_climbed_L48 _ _ (f + 1) (nI m) a = _; rw [q_X12_climbed_L48, if_pos (nI_le (Nat.le_refl _) (by omega))], e2⟩)
    (fun f j z hj h => by
      obtain ⟨c, a⟩ := z
      obtain ⟨e1, e2⟩ := h
      have e1 : c = nI j := e1
      subst e1
      refine Or.inr ⟨(nI (j + 1), upd a j (nI (bw x j))), ?_, rfl, fun k hk => ?_⟩
      · show q_X12_climbed_L48 _ _ (f + 1) (nI j) a = q_X12_climbed_L48 _ _ f (nI (j + 1)) _
        rw [q_X12_climbed_L48, if_neg (nI_ge hj (by omega)), if_pos (xinI (by omega) (by omega)), nI_clamp (by omega), bwM hx (by omega), nI_1]
      · show upd a j _ k = _
        by_cases e : k = j
        · subst e; exact upd_eq
        · rw [upd_ne e]; exact e2 k (by omega))
    10000 0 (nI 0, a50) ⟨rfl, fun k hk => absurd hk (Nat.not_lt_zero k)⟩ (Nat.zero_le _) (by omega)
  exact ⟨r, hr, g⟩
theorem besideC {n i L : Nat} {B : Nat → Nat} {g : Nat → Int64} {h : Nat → Int32} (hn : n ≤ 64) (hi : i < 16) (hL : L ≤ 4) (hT : TR B n L g h) (q : Nat) (hq : q < L) : t_X9_sumBeside (nI i) (nI q) h g = bsd B n i q := by
  have hsb := sib_le (k := i / 2 ^ q) (by have := Nat.div_le_self i (2 ^ q); omega)
  have hcq := cnt_le hn q
  unfold t_X9_sumBeside bsd
  rw [if_neg (nI_pos (by omega)), if_neg (nI_ge (by omega) (by omega)), nI_clamp (by omega), (hT q (by omega)).1, sibC i (by omega) q (by omega)]
  by_cases c3 : cnt n q ≤ sib (i / 2 ^ q)
  · rw [if_pos (nI_le c3 (by omega)), if_pos c3]
  · rw [if_neg (nI_ge (by omega) (by omega)), if_neg c3, sumT (by omega), (hT q (by omega)).2 _ (by omega)]
theorem M_41 : MS_41 := by
  intro S l4 c1_1 a2 a46 a47 c45_2 a66 c48_17 c48_18 a49 a50 a65 c3_1 c3_2 c4_0 a5 a6 c48_20 a52 c8_0 c8_1 c8_2 c8_3 c8_4 c8_5 c48_24 c48_25 c48_26 c48_27 c48_28 c7_0 c7_1 c7_2 c7_3 c7_4 c7_5 a10 a11 a53 c17_1 a18 c48_21 a57 c23_4 c24_0 a25 a26 c48_22 a58 a22 x1 x2 x3 x4 x5 hB hP hK h7 hS hD hW hC
  obtain ⟨n, B, hn, rfl, rfl, hb⟩ := hB
  unfold q_case41
  generalize S.2 (l4 + (1 : Int32)).toNatClampNeg = p1
  generalize S.2 (l4 + (2 : Int32)).toNatClampNeg = p2
  have h16 := cnt_le hn 0
  have hc : cnt n 0 = (n + 3) / 4 := rfl
  rcases cls p1 (n := cnt n 0) (by omega) with ⟨i, hi, rfl⟩ | hF
  · obtain ⟨x, hx, rfl⟩ := nI_any p2
    obtain ⟨t1, t2⟩ := leafT hn hi
    obtain ⟨L, l1, l2, l3, g, h, g1, g2⟩ := growC (a46 := a46) (a47 := a47) hn (by omega) (fun k hk => ⟨(hb k hk).1, (hb k hk).2.1⟩)
    obtain ⟨c', g', h', f1, f2⟩ := layLeavesM (c := c48_18) (a50 := a50) (a65 := a65) hn (fun k hk => ⟨(hb k hk).1, (hb k hk).2.2⟩)
    obtain ⟨b', b1, -, -⟩ := layM (a := 4 * i) (b := min n (4 * i + 4)) (a49 := a49) (a50 := g') (by omega) (by omega)
    obtain ⟨u, u1, u2⟩ := climb48 (x := x) (m := min n (4 * i + 4) - 4 * i) (a50 := b') hx (by omega)
    have u3 := byLibM (n := min n (4 * i + 4) - 4 * i) (a := 0) (B := bw x) (g := u.2) (by omega) (fun k hk => ⟨bw_lt _ _, by rw [Nat.zero_add]; exact u2 k hk⟩)
    have hws := wS_lt x (min n (4 * i + 4) - 4 * i)
    have u3 : q_X12_byLibrary (nI (min n (4 * i + 4) - 4 * i)) u.2 = some (lN (wS x (min n (4 * i + 4) - 4 * i))) := u3
    have k1' : (4 : Int32) * nI i = nI (4 * i) := nI_mul 4 i
    have k2' : nI (4 * i) + 4 = nI (4 * i + 4) := nI_add (4 * i) 4
    have ew : (if nI n - nI (4 * i) < 4 then nI n - nI (4 * i) else 4) = nI (min n (4 * i + 4) - 4 * i) := by
      rw [nI_sub (by omega)]
      by_cases c : n - 4 * i < 4
      · rw [if_pos (by rw [ltI, nI_toInt (by omega), show (4 : Int32).toInt = 4 from rfl]; omega), show min n (4 * i + 4) - 4 * i = n - 4 * i by omega]
      · rw [if_neg (by rw [ltI, nI_toInt (by omega), show (4 : Int32).toInt = 4 from rfl]; omega), show min n (4 * i + 4) - 4 * i = 4 by omega]
        rfl
    have ewc := wordC (x := x) (n := min n (4 * i + 4) - 4 * i) hx (by omega)
    generalize wS x (min n (4 * i + 4) - 4 * i) = v at hws u3 ewc
    obtain ⟨M, m1, m2, m3, r, r1, r2⟩ := climb88 (B := B) hn hi hws 16 0 10000 (nI (min n (4 * i + 4) - 4 * i)) u.2 (vp_updL h' i (lN v)) h16 (by omega) (by omega) (fun j hj => by
      unfold rC
      rw [Nat.pow_zero, Nat.div_one]
      by_cases e : j = i
      · subst e; rw [if_pos rfl]; exact updL_eq
      · rw [if_neg e, updL_ne e]; exact f2 j hj)
    have hLM := cnt_uniq l2 l3 m2 (fun k hk => m3 k (Nat.zero_le k) hk)
    subst hLM
    have e6 := with6 (B := B) (v := v) hn (show i < 16 by omega) hws l1 g2 (fun q hq => besideC hn (by omega) l1 g2 q hq)
    have e1 : q_X11_climbed (nI i) (nI x) (nI n) a2 a46 a47 c45_2 = some (.inr (lN (zC B n i v L)), (g, h, nI (L + 1))) := by
      unfold q_X11_climbed t_X5_size
      rw [t1, k1', ew]
      simp only [xbnd, g1, Option.bind_some, ewc, e6]
    have e2 : q_X12_climbed (nI i) (nI x) (nI n) c48_18 a49 a50 a65 = some ((t_X12_tellsLong (lN (zC B n i v L))).1, r.2.1, (t_X12_tellsLong (lN (zC B n i v L))).2, r.2.2.1, r.2.2.2) := by
      unfold q_X12_climbed
      rw [t2, ite10, f1, Option.bind_some, k1', k2', lesserT hn (by omega), b1, Option.bind_some, u1, Option.bind_some, u3, Option.bind_some, if_pos (xinI (by omega) (by omega)), nI_clamp (by omega), leavesT hn, r1, Option.bind_some, c0, r2]
    simp only [x1, x2, if_true, q_L_climbed, e1, xbnd, Option.bind_some, e2, t_X12_tellsLong, t_X12_thrown, ite00, c0, updL_eq, lgs]
    exact ⟨_, rfl⟩
  · obtain ⟨t1, t2⟩ := leafF hn hF
    have e1 : q_X11_climbed p1 p2 (nI n) a2 a46 a47 c45_2 = some (.inl 2, (a46, a47, c45_2)) := by
      unfold q_X11_climbed
      rw [t1]; rfl
    have e2 : q_X12_climbed p1 p2 (nI n) c48_18 a49 a50 a65 = some ((t_X12_fails 1).1.toInt64, c48_18, (t_X12_fails 1).2, a50, a65) := by
      unfold q_X12_climbed
      rw [t2, ite00]
    simp only [x1, x2, if_true, q_L_climbed, e1, xbnd, Option.bind_some, e2, t_X12_fails, t_X12_thrown]
    exact ⟨_, rfl⟩

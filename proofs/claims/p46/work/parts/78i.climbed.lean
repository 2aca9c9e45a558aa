/-! The call climbed. -/
def zC (B : Nat → Nat) (n i v : Nat) : Nat → Nat
  | 0 => v
  | l + 1 => if cnt n l ≤ sib (i / 2 ^ l) then zC B n i v l else if i / 2 ^ l % 2 = 1 then pr (tV B n l (sib (i / 2 ^ l))) (zC B n i v l) else pr (zC B n i v l) (tV B n l (sib (i / 2 ^ l)))
def rC (B : Nat → Nat) (n i v l j : Nat) : Nat := if j = i / 2 ^ l then zC B n i v l else tV B n l j
theorem zC_lt {B : Nat → Nat} {n i v : Nat} (hv : v < 4294967296) : ∀ l, zC B n i v l < 4294967296 := by
  intro l
  induction l with
  | zero => exact hv
  | succ l ih =>
    show (if _ then _ else _) < _
    split
    · exact ih
    · split <;> exact pr_lt _ _
theorem rC_lt {B : Nat → Nat} {n i v : Nat} (hv : v < 4294967296) (l j : Nat) : rC B n i v l j < 4294967296 := by
  unfold rC
  split
  · exact zC_lt hv l
  · exact tV_lt B n l j
theorem path_lt {n i : Nat} (hi : i < cnt n 0) : ∀ l, i / 2 ^ l < cnt n l := by
  intro l
  induction l with
  | zero => rw [Nat.pow_zero, Nat.div_one]; exact hi
  | succ l ih =>
    rw [Nat.pow_succ, ← Nat.div_div_eq_div_mul]
    show i / 2 ^ l / 2 < (cnt n l + 1) / 2
    omega
theorem rC_up {B : Nat → Nat} {n i v l : Nat} (hi : i < cnt n 0) (j : Nat) (hj : 2 * j < cnt n l) : rC B n i v (l + 1) j = if 2 * j + 1 < cnt n l then pr (rC B n i v l (2 * j)) (rC B n i v l (2 * j + 1)) else rC B n i v l (2 * j) := by
  have hp := path_lt hi l
  have e2 : i / 2 ^ (l + 1) = i / 2 ^ l / 2 := by rw [Nat.pow_succ, ← Nat.div_div_eq_div_mul]
  unfold rC
  rw [e2]
  show (if j = i / 2 ^ l / 2 then (if cnt n l ≤ sib (i / 2 ^ l) then zC B n i v l else if i / 2 ^ l % 2 = 1 then pr (tV B n l (sib (i / 2 ^ l))) (zC B n i v l) else pr (zC B n i v l) (tV B n l (sib (i / 2 ^ l)))) else (if 2 * j + 1 < cnt n l then pr (tV B n l (2 * j)) (tV B n l (2 * j + 1)) else tV B n l (2 * j))) = _
  generalize i / 2 ^ l = a at *
  by_cases c : j = a / 2
  · rw [if_pos c]
    unfold sib
    by_cases o : a % 2 = 1
    · have ea : a = 2 * j + 1 := by omega
      rw [if_pos o, if_neg (by omega), if_pos o, if_pos (by omega), if_neg (by omega), if_pos (by omega), show a - 1 = 2 * j by omega]
    · have ea : a = 2 * j := by omega
      rw [if_neg o]
      by_cases c2 : 2 * j + 1 < cnt n l
      · rw [if_neg (by omega), if_neg o, if_pos c2, if_pos (by omega), if_neg (by omega), show a + 1 = 2 * j + 1 by omega]
      · rw [if_pos (by omega), if_neg c2, if_pos (by omega)]
  · rw [if_neg c]
    by_cases c2 : 2 * j + 1 < cnt n l
    · rw [if_pos c2, if_pos c2, if_neg (by omega), if_neg (by omega)]
    · rw [if_neg c2, if_neg c2, if_neg (by omega)]
theorem bitC : ∀ i, i < 16 → ∀ k, k < 5 → (nI i >>> (nI k &&& 31)) &&& 1 = nI (i / 2 ^ k % 2) := by decide +kernel
theorem with6 {B : Nat → Nat} {n i v L : Nat} {g : Nat → Int64} {h : Nat → Int32} (hn : n ≤ 64) (hi : i < 16) (hv : v < 4294967296) (hL : L ≤ 4) (hT : TR B n L g h) (hb : ∀ q, q < L → t_X9_sumBeside (nI i) (nI q) h g = bsd B n i q) :
    q_X9_topSumWith (nI i) (lN v) (nI (L + 1)) h g = some (lN (zC B n i v L)) := by
  have est : t_X9_steps (nI (L + 1)) = nI L := by unfold t_X9_steps; rw [nI_pred' (by omega), Nat.add_sub_cancel]
  obtain ⟨r, hr, e⟩ := loop_inv (F := fun f (z : Int64 × Int32) => q_X9_topSumWith_L6 (nI i) (nI (L + 1)) h g f z.1 z.2)
    (fun j z => z = (lN (zC B n i v j), nI j)) (fun r => r.1 = lN (zC B n i v L)) L
    (fun f z hz => by
      subst hz
      exact ⟨_, by show q_X9_topSumWith_L6 _ _ _ _ (f + 1) (lN _) (nI L) = _; rw [q_X9_topSumWith_L6, est, if_pos (nI_le (Nat.le_refl _) (by omega))], rfl⟩)
    (fun f j z hj hz => by
      subst hz
      refine Or.inr ⟨_, ?_, rfl⟩
      have hz := zC_lt (B := B) (n := n) (i := i) hv j
      have ht := tV_lt B n j (sib (i / 2 ^ j))
      show q_X9_topSumWith_L6 _ _ _ _ (f + 1) (lN _) (nI j) = q_X9_topSumWith_L6 _ _ _ _ f (lN (zC B n i v (j + 1))) (nI (j + 1))
      rw [q_X9_topSumWith_L6, est, if_neg (nI_ge hj (by omega)), hb j hj, nI_1]
      unfold bsd
      by_cases c : cnt n j ≤ sib (i / 2 ^ j)
      · rw [if_pos c, if_pos lg_m1, show zC B n i v (j + 1) = zC B n i v j from if_pos c]
      · rw [if_neg c, if_neg (lg_nn (by omega)), bitC i hi j (by omega)]
        by_cases o : i / 2 ^ j % 2 = 1
        · have ez : zC B n i v (j + 1) = pr (tV B n j (sib (i / 2 ^ j))) (zC B n i v j) := by rw [zC, if_neg c, if_pos o]
          rw [o, if_pos (show ¬ nI 1 = 0 by decide), pairC ht hz, Option.bind_some, ez]
        · have ez : zC B n i v (j + 1) = pr (zC B n i v j) (tV B n j (sib (i / 2 ^ j))) := by rw [zC, if_neg c, if_neg o]
          rw [show i / 2 ^ j % 2 = 0 by omega, if_neg (show ¬ ¬ nI 0 = 0 from fun h => h rfl), pairC hz ht, Option.bind_some, ez])
    10000 0 (lN v, nI 0) rfl (Nat.zero_le _) (by omega)
  have hr' : q_X9_topSumWith_L6 (nI i) (nI (L + 1)) h g 10000 (lN v) 0 = some r := hr
  unfold q_X9_topSumWith
  rw [hr', Option.bind_some, e]
theorem besideC {n i L : Nat} {B : Nat → Nat} {g : Nat → Int64} {h : Nat → Int32} (hn : n ≤ 64) (hi : i < 16) (hL : L ≤ 4) (hT : TR B n L g h) (q : Nat) (hq : q < L) : t_X9_sumBeside (nI i) (nI q) h g = bsd B n i q := by
  have hsb := sib_le (k := i / 2 ^ q) (by have := Nat.div_le_self i (2 ^ q); omega)
  have hcq := cnt_le hn q
  unfold t_X9_sumBeside bsd
  rw [if_neg (nI_pos (by omega)), if_neg (nI_ge (by omega) (by omega)), nI_clamp (by omega), (hT q (by omega)).1, sibC i (by omega) q (by omega)]
  by_cases c3 : cnt n q ≤ sib (i / 2 ^ q)
  · rw [if_pos (nI_le c3 (by omega)), if_pos c3]
  · rw [if_neg (nI_ge (by omega) (by omega)), if_neg c3, sumT (by omega), (hT q (by omega)).2 _ (by omega)]

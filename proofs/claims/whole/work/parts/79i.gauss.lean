/-! The reference's forging: the sums of single bits made into a basis. -/
theorem rT_xor (q x y : Nat) : rT q (x ^^^ y) = rT q x ^^^ rT q y := by
  apply Nat.eq_of_testBit_eq
  intro i
  rw [Nat.testBit_xor, rT_bit, rT_bit, rT_bit, Nat.testBit_xor, Nat.testBit_xor]
  cases x.testBit (i + 1) <;> cases y.testBit (i + 1) <;> cases x.testBit 0 <;> cases y.testBit 0 <;> cases q.testBit i <;> rfl
theorem itT_xor (q : Nat) : ∀ k x y, itT q k (x ^^^ y) = itT q k x ^^^ itT q k y := by
  intro k
  induction k with
  | zero => intro x y; rfl
  | succ k ih =>
    intro x y
    show itT q k (rT q (x ^^^ y)) = itT q k (rT q x) ^^^ itT q k (rT q y)
    rw [rT_xor, ih]
theorem mg_xor {B C : Nat → Nat} {a y z : Nat} : ∀ n, mg (fun k => B k ^^^ C k) a (y ^^^ z) n = mg B a y n ^^^ mg C a z n := by
  intro n
  induction n with
  | zero => rfl
  | succ n ih =>
    show itT lM 8 (mg (fun k => B k ^^^ C k) a (y ^^^ z) n ^^^ (B (a + n) ^^^ C (a + n))) = itT lM 8 (mg B a y n ^^^ B (a + n)) ^^^ itT lM 8 (mg C a z n ^^^ C (a + n))
    rw [ih, xor4, itT_xor]
theorem bw_xor (v u k : Nat) : bw (v ^^^ u) k = bw v k ^^^ bw u k := by
  unfold bw
  rw [Nat.xor_div_two_pow, show (256 : Nat) = 2 ^ 8 from rfl, Nat.xor_mod_two_pow]
theorem bw_0 (k : Nat) : bw 0 k = 0 := by
  unfold bw
  rw [Nat.zero_div]
theorem mg_0 {a y : Nat} : ∀ k, mg (fun _ => 0) a y k = itT lM (8 * k) y := by
  intro k
  induction k with
  | zero => rfl
  | succ k ih =>
    show itT lM 8 (mg (fun _ => 0) a y k ^^^ 0) = _
    rw [ih, Nat.xor_zero, ← itT_add, show 8 * k + 8 = 8 * (k + 1) by omega]
/-- how the sum is turned by a word -/
def ph (k v : Nat) : Nat := mg (fun _ => 0) 0 (mg (bw v) 0 0 4) k
theorem ph_xor (k v u : Nat) : ph k (v ^^^ u) = ph k v ^^^ ph k u := by
  unfold ph
  have h1 := mg_xor (B := bw v) (C := bw u) (a := 0) (y := 0) (z := 0) 4
  rw [Nat.xor_self] at h1
  rw [mg_congr (B := bw (v ^^^ u)) (C := fun k => bw v k ^^^ bw u k) (a := 0) (b := 0) 4 (fun i _ => bw_xor v u (0 + i)), h1]
  exact mg_xor (B := fun _ => 0) (C := fun _ => 0) k
theorem ph_0 (k : Nat) : ph k 0 = 0 := by
  have := ph_xor k 0 0
  rw [Nat.xor_self, Nat.xor_self] at this
  exact this
theorem ph_lt (k v : Nat) : ph k v < 2 ^ 32 := by
  unfold ph
  exact mg_lt (mg_lt (by decide) 4 (fun i _ => bw_lt v (0 + i))) k (fun _ _ => by decide)
theorem sw_sw {g : Nat} (hg : g < 4294967296) : sw (sw g) = g := by
  obtain ⟨a, b, c, d, ha, hb, hc, hd, rfl⟩ := sp4 hg
  rw [sw_of ha hb hc hd, sw_of hd hc hb ha]
theorem ph_ker {k v : Nat} (hv : v < 4294967296) (h : ph k v = 0) : v = 0 := by
  unfold ph at h
  rw [mg_0] at h
  have hs := sw_lt hv
  have e : mg (bw v) 0 0 4 = itT lM 32 (sw v) := by
    rw [mg_congr (B := bw v) (C := fun i => sw v / 2 ^ (8 * i) % 256) (a := 0) (b := 0) 4 (fun i hi => by
      rw [Nat.zero_add]
      have := bw_sw hs hi
      rw [sw_sw hv] at this
      exact this), mg_word hs, Nat.zero_xor]
  rw [e] at h
  have h1 := itT_ker _ _ (itT_lt 32 _ hs) h
  have h2 := itT_ker 32 _ hs h1
  have h3 := sw_sw hv
  rw [h2] at h3
  rw [← h3]
  rfl
theorem sW_ph {B : Nat → Nat} {x n : Nat} (hB : ∀ k, k < n → B k < 256) (hx : x + 4 ≤ n) (v : Nat) : sW B x n v = sW B x n 0 ^^^ ph (n - x - 4) v := by
  rw [sW_mg hB hx, sW_mg hB hx]
  generalize hy : mg B 0 (mir lE 32) x = y
  have h1 : mg (bw v) 0 y 4 = mg (bw 0) 0 y 4 ^^^ mg (bw v) 0 0 4 := by
    have := mg_xor (B := bw 0) (C := bw v) (a := 0) (y := y) (z := 0) 4
    rw [Nat.xor_zero] at this
    rw [← this]
    exact mg_congr 4 (fun i _ => by
      show bw v (0 + i) = bw 0 (0 + i) ^^^ bw v (0 + i)
      rw [bw_0, Nat.zero_xor])
  have h2 : mg B (x + 4) (mg (bw 0) 0 y 4 ^^^ mg (bw v) 0 0 4) (n - x - 4) = mg B (x + 4) (mg (bw 0) 0 y 4) (n - x - 4) ^^^ ph (n - x - 4) v := by
    have h3 := mg_xor (B := B) (C := fun _ => 0) (a := x + 4) (y := mg (bw 0) 0 y 4) (z := mg (bw v) 0 0 4) (n - x - 4)
    rw [mg_congr (B := fun k => B k ^^^ 0) (C := B) (a := x + 4) (b := x + 4) (n - x - 4) (fun i _ => Nat.xor_zero _)] at h3
    rw [h3]
    congr 1
    exact mg_congr (n - x - 4) (fun _ _ => rfl)
  rw [h1, h2, Nat.xor_assoc, Nat.xor_comm (ph _ _), ← Nat.xor_assoc]
theorem sW_inj {B : Nat → Nat} {x n v u : Nat} (hB : ∀ k, k < n → B k < 256) (hx : x + 4 ≤ n) (hv : v < 4294967296) (hu : u < 4294967296) (h : sW B x n v = sW B x n u) : v = u := by
  rw [sW_ph hB hx v, sW_ph hB hx u] at h
  have h1 : ph (n - x - 4) v = ph (n - x - 4) u := by
    have := congrArg (fun z => sW B x n 0 ^^^ z) h
    have this : sW B x n 0 ^^^ (sW B x n 0 ^^^ ph (n - x - 4) v) = sW B x n 0 ^^^ (sW B x n 0 ^^^ ph (n - x - 4) u) := this
    rw [← Nat.xor_assoc, ← Nat.xor_assoc, Nat.xor_self, Nat.zero_xor, Nat.zero_xor] at this
    exact this
  have h2 : ph (n - x - 4) (v ^^^ u) = 0 := by rw [ph_xor, h1, Nat.xor_self]
  have h3 := ph_ker (Nat.xor_lt_two_pow (n := 32) hv hu) h2
  have h4 : v ^^^ (v ^^^ u) = v ^^^ 0 := by rw [h3]
  rw [← Nat.xor_assoc, Nat.xor_self, Nat.zero_xor, Nat.xor_zero] at h4
  exact h4.symm
/-! The basis. -/
def BI (k0 j : Nat) (bs ps : Nat → Nat) : Prop := ∀ i, i < 32 → bs i = 0 ∨ (2 ^ i ≤ bs i ∧ bs i < 2 ^ (i + 1) ∧ ph k0 (ps i) = bs i ∧ ps i < 2 ^ j)
theorem bitX {a k : Nat} (ha : a < 4294967296) (hk : k < 32) : (xul (lN a) (nI k)) &&& (1 : Int64) = lN (a.testBit k).toNat := by
  rw [lN_xul (by omega) (by omega), show (1 : Int64) = lN 1 from rfl, lN_and, and1, tb_div]
theorem addsZ {a63 a64 : Nat → Int64} {m : Int64} : ∀ k f, k ≤ 32 → k < f → ∃ z, q_X12_adds_L10 f 0 m (nI k + (-1)) a63 a64 = some (0, m, z, a63, a64) := by
  intro k
  induction k with
  | zero =>
    intro f _ hf
    obtain ⟨f, rfl⟩ : ∃ g, f = g + 1 := ⟨f - 1, by omega⟩
    exact ⟨_, by rw [q_X12_adds_L10, if_pos (by decide)]⟩
  | succ k ih =>
    intro f hk hf
    obtain ⟨f, rfl⟩ : ∃ g, f = g + 1 := ⟨f - 1, by omega⟩
    obtain ⟨z, hz⟩ := ih f (by omega) (by omega)
    have hb := bitX (a := 0) (k := k) (by decide) (by omega)
    rw [Nat.zero_testBit] at hb
    have hb : (xul 0 (nI k)) &&& (1 : Int64) = 0 := hb
    refine ⟨z, ?_⟩
    rw [nI_m1 (by omega), show k + 1 - 1 = k by omega, q_X12_adds_L10, if_neg (nI_pos (by omega)), hb, if_neg (show ¬ ¬ lg_cmp 0 0 = 0 from fun h => h (lgs 0))]
    exact hz
theorem addsI {k0 j : Nat} {bs ps : Nat → Nat} {a63 a64 : Nat → Int64} (hI : BI k0 j bs ps) (h59 : ∀ i, i < 32 → a63 i = lN (bs i)) (h60 : ∀ i, i < 32 → a64 i = lN (ps i)) (hj : j < 32) : ∀ k f left made, k ≤ 32 → left < 2 ^ k → ph k0 made = left → made.testBit j = true → made < 2 ^ (j + 1) → k < f → ∃ i l m z1 z2 z3, i < 32 ∧ bs i = 0 ∧ 2 ^ i ≤ l ∧ l < 2 ^ (i + 1) ∧ ph k0 m = l ∧ m < 2 ^ (j + 1) ∧ q_X12_adds_L10 f (lN left) (lN made) (nI k + (-1)) a63 a64 = some (z1, z2, z3, vp_updL a63 i (lN l), vp_updL a64 i (lN m)) := by
  have hj32 : 2 ^ (j + 1) ≤ 2 ^ 32 := Nat.pow_le_pow_right (by decide) (by omega)
  intro k
  induction k with
  | zero =>
    intro f left made _ hl hp ht hm _
    have e : left = 0 := by omega
    rw [e] at hp
    have := ph_ker (by omega) hp
    rw [this, Nat.zero_testBit] at ht
    exact absurd ht (by decide)
  | succ k ih =>
    intro f left made hk hl hp ht hm hf
    obtain ⟨f, rfl⟩ : ∃ g, f = g + 1 := ⟨f - 1, by omega⟩
    have hk32 : 2 ^ (k + 1) ≤ 2 ^ 32 := Nat.pow_le_pow_right (by decide) hk
    have hb := bitX (a := left) (k := k) (by omega) (by omega)
    rw [nI_m1 (by omega), show k + 1 - 1 = k by omega, q_X12_adds_L10, if_neg (nI_pos (by omega)), hb]
    cases c : left.testBit k with
    | false =>
      rw [if_neg (show ¬ ¬ lg_cmp (lN false.toNat) 0 = 0 from fun h => h (lgs 0))]
      exact ih f left made (by omega) (lt_of_top hl (by rw [c]; decide)) hp ht hm (by omega)
    | true =>
      rw [if_pos (show ¬ lg_cmp (lN true.toNat) 0 = 0 by decide), if_pos (xinI (by omega) (by omega)), nI_clamp (by omega), h59 k (by omega), h60 k (by omega)]
      rcases hI k (by omega) with z | ⟨i1, i2, i3, i4⟩
      · rw [z, if_neg (show ¬ ¬ lg_cmp (lN 0) 0 = 0 from fun h => h (lgs 0)), if_pos (xinI (by omega) (by omega)), if_pos (xinI (by omega) (by omega))]
        obtain ⟨y, hy⟩ := addsZ (a63 := vp_updL a63 k (lN left)) (a64 := vp_updL a64 k (lN made)) (m := lN made) k f (by omega) (by omega)
        exact ⟨k, left, made, _, _, y, by omega, z, Nat.ge_two_pow_of_testBit c, hl, hp, hm, hy⟩
      · have hp2 : 0 < 2 ^ k := Nat.two_pow_pos k
        have hne : ¬ lg_cmp (lN (bs k)) 0 = 0 := by
          rw [lg_eq, show (0 : Int64) = lN 0 from rfl, lN_inj (by omega) (by omega)]
          omega
        have hpj : ps k < 2 ^ (j + 1) := Nat.lt_of_lt_of_le i4 (Nat.pow_le_pow_right (by decide) (by omega))
        rw [if_pos hne, if_pos (xinI (by omega) (by omega)), if_pos (xinI (by omega) (by omega)), lN_xor, lN_xor]
        refine ih f (left ^^^ bs k) (made ^^^ ps k) (by omega) (xor_top hl i2 c (top_bit i1 i2)) (by rw [ph_xor, hp, i3]) ?_ (Nat.xor_lt_two_pow hm hpj) (by omega)
        rw [Nat.testBit_xor, ht, Nat.testBit_lt_two_pow i4]
        rfl
theorem addsM {k0 j : Nat} {bs ps : Nat → Nat} {a63 a64 : Nat → Int64} (hI : BI k0 j bs ps) (h59 : ∀ i, i < 32 → a63 i = lN (bs i)) (h60 : ∀ i, i < 32 → a64 i = lN (ps i)) (hj : j < 32) : ∃ i l m, i < 32 ∧ bs i = 0 ∧ 2 ^ i ≤ l ∧ l < 2 ^ (i + 1) ∧ ph k0 m = l ∧ m < 2 ^ (j + 1) ∧ q_X12_adds (lN (ph k0 (2 ^ j))) (lN (2 ^ j)) a63 a64 = some (vp_updL a63 i (lN l), vp_updL a64 i (lN m)) := by
  obtain ⟨i, l, m, z1, z2, z3, e1, e2, e3, e4, e5, e6, e7⟩ := addsI hI h59 h60 hj 32 10000 (ph k0 (2 ^ j)) (2 ^ j) (Nat.le_refl 32) (ph_lt k0 _) rfl (by rw [Nat.testBit_two_pow, decide_eq_true rfl]) (Nat.pow_lt_pow_right (by decide) (by omega)) (by omega)
  refine ⟨i, l, m, e1, e2, e3, e4, e5, e6, ?_⟩
  have e7 : q_X12_adds_L10 10000 (lN (ph k0 (2 ^ j))) (lN (2 ^ j)) 31 a63 a64 = _ := e7
  unfold q_X12_adds
  rw [e7]
  rfl
def cn (bs : Nat → Nat) : Nat → Nat
  | 0 => 0
  | n + 1 => cn bs n + (if bs n = 0 then 0 else 1)
theorem cn_le (bs : Nat → Nat) : ∀ n, cn bs n ≤ n := by
  intro n
  induction n with
  | zero => exact Nat.le_refl 0
  | succ n ih =>
    show cn bs n + (if bs n = 0 then 0 else 1) ≤ n + 1
    split <;> omega
theorem cn_full {bs : Nat → Nat} : ∀ n, cn bs n = n → ∀ i, i < n → bs i ≠ 0 := by
  intro n
  induction n with
  | zero => intro _ i hi; exact absurd hi (Nat.not_lt_zero i)
  | succ n ih =>
    intro h i hi
    have h1 := cn_le bs n
    have h : cn bs n + (if bs n = 0 then 0 else 1) = n + 1 := h
    by_cases c : bs n = 0
    · rw [if_pos c] at h; omega
    · rw [if_neg c] at h
      by_cases e : i = n
      · rw [e]; exact c
      · exact ih (by omega) i (by omega)
theorem cn_congr {bs cs : Nat → Nat} : ∀ n, (∀ i, i < n → bs i = cs i) → cn bs n = cn cs n := by
  intro n
  induction n with
  | zero => intro _; rfl
  | succ n ih =>
    intro h
    show cn bs n + (if bs n = 0 then 0 else 1) = cn cs n + (if cs n = 0 then 0 else 1)
    rw [ih (fun i hi => h i (by omega)), h n (by omega)]
theorem cn_upd {bs : Nat → Nat} {i l : Nat} (h0 : bs i = 0) (hl : l ≠ 0) : ∀ n, i < n → cn (fun k => if k = i then l else bs k) n = cn bs n + 1 := by
  intro n
  induction n with
  | zero => intro hi; exact absurd hi (Nat.not_lt_zero i)
  | succ n ih =>
    intro hi
    show cn (fun k => if k = i then l else bs k) n + (if (if n = i then l else bs n) = 0 then 0 else 1) = cn bs n + (if bs n = 0 then 0 else 1) + 1
    by_cases e : n = i
    · subst e
      rw [cn_congr (cs := bs) n (fun k hk => if_neg (by omega)), if_pos rfl, if_neg hl, if_pos h0]
    · rw [ih (by omega), if_neg e]
      omega
theorem zero63 {a63 a64 : Nat → Int64} : ∃ r : Int32 × (Nat → Int64) × (Nat → Int64), q_X12_forge_L63 10000 0 a63 a64 = some r ∧ ∀ i, i < 32 → r.2.1 i = 0 ∧ r.2.2 i = 0 := by
  obtain ⟨r, hr, g⟩ := loop_inv (F := fun f (z : Int32 × (Nat → Int64) × (Nat → Int64)) => q_X12_forge_L63 f z.1 z.2.1 z.2.2)
    (fun j z => z.1 = nI j ∧ ∀ i, i < j → z.2.1 i = 0 ∧ z.2.2 i = 0) (fun r => ∀ i, i < 32 → r.2.1 i = 0 ∧ r.2.2 i = 0) 32
    (fun f z h => by
      obtain ⟨z1, z2, z3⟩ := z
      obtain ⟨rfl, h⟩ := h
      exact ⟨_, by show q_X12_forge_L63 (f + 1) (nI 32) z2 z3 = some (nI 32, z2, z3); rw [q_X12_forge_L63, if_pos (by decide)], h⟩)
    (fun f j z hj h => by
      obtain ⟨z1, z2, z3⟩ := z
      obtain ⟨rfl, h⟩ := h
      have h : ∀ i, i < j → z2 i = 0 ∧ z3 i = 0 := h
      refine Or.inr ⟨(nI (j + 1), vp_updL z2 j 0, vp_updL z3 j 0), ?_, rfl, ?_⟩
      · show q_X12_forge_L63 (f + 1) (nI j) z2 z3 = q_X12_forge_L63 f (nI (j + 1)) (vp_updL z2 j 0) (vp_updL z3 j 0)
        rw [q_X12_forge_L63, if_neg (show ¬ (32 : Int32) ≤ nI j from nI_ge (b := 32) hj (by decide)), if_pos (xinI hj (by decide)), if_pos (xinI hj (by decide)), nI_clamp (by omega), nI_1]
      · intro i hi
        show vp_updL z2 j 0 i = 0 ∧ vp_updL z3 j 0 i = 0
        by_cases e : i = j
        · subst e; exact ⟨updL_eq, updL_eq⟩
        · rw [updL_ne e, updL_ne e]; exact h i (by omega))
    10000 0 (nI 0, a63, a64) ⟨rfl, fun i hi => absurd hi (Nat.not_lt_zero i)⟩ (Nat.zero_le _) (by omega)
  exact ⟨r, hr, g⟩
theorem layW {x v : Nat} {a50 : Nat → Int32} (hx : x + 4 ≤ 80) (hv : v < 4294967296) : ∃ g, q_X12_layWord (nI x) (nI v) a50 = some g ∧ ∀ k, g k = if x ≤ k ∧ k < x + 4 then nI (bw v (k - x)) else a50 k := by
  obtain ⟨r, hr, g⟩ := loop_inv (F := fun f (z : Int32 × (Nat → Int32)) => q_X12_layWord_L2 (nI x) (nI v) f z.1 z.2)
    (fun j z => z.1 = nI j ∧ ∀ k, z.2 k = if x ≤ k ∧ k < x + j then nI (bw v (k - x)) else a50 k) (fun r => ∀ k, r.2 k = if x ≤ k ∧ k < x + 4 then nI (bw v (k - x)) else a50 k) 4
    (fun f z h => by
      obtain ⟨z1, z2⟩ := z
      obtain ⟨rfl, h⟩ := h
      exact ⟨_, by show q_X12_layWord_L2 _ _ (f + 1) (nI 4) z2 = some (nI 4, z2); rw [q_X12_layWord_L2, if_pos (by decide)], h⟩)
    (fun f j z hj h => by
      obtain ⟨z1, z2⟩ := z
      obtain ⟨rfl, h⟩ := h
      have h : ∀ k, z2 k = if x ≤ k ∧ k < x + j then nI (bw v (k - x)) else a50 k := h
      refine Or.inr ⟨(nI (j + 1), upd z2 (x + j) (nI (bw v j))), ?_, rfl, ?_⟩
      · show q_X12_layWord_L2 _ _ (f + 1) (nI j) z2 = q_X12_layWord_L2 _ _ f (nI (j + 1)) (upd z2 (x + j) (nI (bw v j)))
        rw [q_X12_layWord_L2, if_neg (show ¬ (4 : Int32) ≤ nI j from nI_ge (b := 4) hj (by decide)), nI_add, if_pos (xinI (by omega) (by decide)), nI_clamp (by omega), bwM hv hj, nI_1]
      · intro k
        show upd z2 (x + j) (nI (bw v j)) k = _
        by_cases e : k = x + j
        · subst e; rw [upd_eq, if_pos (by omega), Nat.add_sub_cancel_left]
        · rw [upd_ne e, h]
          by_cases c : x ≤ k ∧ k < x + j
          · rw [if_pos c, if_pos (by omega)]
          · rw [if_neg c, if_neg (by omega)])
    10000 0 (nI 0, a50) ⟨rfl, fun k => (if_neg (by omega)).symm⟩ (Nat.zero_le _) (by omega)
  have hr' : q_X12_layWord_L2 (nI x) (nI v) 10000 0 a50 = some r := hr
  refine ⟨r.2, ?_, g⟩
  unfold q_X12_layWord
  rw [hr', Option.bind_some]
theorem sumW {x v n : Nat} {B : Nat → Nat} {g : Nat → Int32} (hn : n ≤ 64) (hB : ∀ k, k < n → B k < 256) (h : ∀ k, k < n → g k = nI (wB B x v k)) : q_X12_byLibrary (nI n) g = some (lN (sW B x n v)) := by
  exact byLibM (a := 0) (B := wB B x v) (by omega) (fun k hk => by rw [Nat.zero_add]; exact ⟨wB_lt hB k hk, h k hk⟩)
theorem wB_lay {x v u n : Nat} {B : Nat → Nat} {g a50 : Nat → Int32} (h : ∀ k, k < n → a50 k = nI (wB B x u k)) (hg : ∀ k, g k = if x ≤ k ∧ k < x + 4 then nI (bw v (k - x)) else a50 k) : ∀ k, k < n → g k = nI (wB B x v k) := by
  intro k hk
  rw [hg]
  by_cases c : x ≤ k ∧ k < x + 4
  · rw [if_pos c]
    unfold wB
    rw [if_pos c]
  · rw [if_neg c, h k hk]
    unfold wB
    rw [if_neg c, if_neg c]
theorem basis95 {x n : Nat} {B : Nat → Nat} {a50 : Nat → Int32} {a63 a64 : Nat → Int64} (hx : x + 4 ≤ n) (hn : n ≤ 64) (hB : ∀ k, k < n → B k < 256) (h46 : ∀ k, k < n → a50 k = nI (wB B x 0 k)) (hz : ∀ i, i < 32 → a63 i = 0 ∧ a64 i = 0) :
    ∃ r : Int32 × (Nat → Int32) × (Nat → Int64) × (Nat → Int64), q_X12_forge_L95 (nI x) (lN (sW B x n 0)) (nI n) 10000 0 a50 a63 a64 = some r ∧ ∃ bs ps, BI (n - x - 4) 32 bs ps ∧ (∀ i, i < 32 → bs i ≠ 0) ∧ (∀ i, i < 32 → r.2.2.1 i = lN (bs i)) ∧ ∀ i, i < 32 → r.2.2.2 i = lN (ps i) := by
  obtain ⟨r, hr, bs, ps, g1, g2, g3, g4⟩ := loop_inv (F := fun f (z : Int32 × (Nat → Int32) × (Nat → Int64) × (Nat → Int64)) => q_X12_forge_L95 (nI x) (lN (sW B x n 0)) (nI n) f z.1 z.2.1 z.2.2.1 z.2.2.2)
    (fun j z => z.1 = nI j ∧ (∃ u, ∀ k, k < n → z.2.1 k = nI (wB B x u k)) ∧ ∃ bs ps, BI (n - x - 4) j bs ps ∧ cn bs 32 = j ∧ (∀ i, i < 32 → z.2.2.1 i = lN (bs i)) ∧ ∀ i, i < 32 → z.2.2.2 i = lN (ps i))
    (fun r => ∃ bs ps, BI (n - x - 4) 32 bs ps ∧ cn bs 32 = 32 ∧ (∀ i, i < 32 → r.2.2.1 i = lN (bs i)) ∧ ∀ i, i < 32 → r.2.2.2 i = lN (ps i)) 32
    (fun f z h => by
      obtain ⟨z1, z2, z3, z4⟩ := z
      obtain ⟨rfl, -, h⟩ := h
      exact ⟨_, by show q_X12_forge_L95 _ _ _ (f + 1) (nI 32) z2 z3 z4 = some (nI 32, z2, z3, z4); rw [q_X12_forge_L95, if_pos (by decide)], h⟩)
    (fun f j z hj h => by
      obtain ⟨z1, z2, z3, z4⟩ := z
      obtain ⟨rfl, ⟨u, hu⟩, bs, ps, b1, b2, b3, b4⟩ := h
      have hp : 2 ^ j < 4294967296 := Nat.lt_of_lt_of_le (Nat.pow_lt_pow_right (by decide) hj) (by decide)
      obtain ⟨g, l1, l2⟩ := layW (x := x) (v := 2 ^ j) (a50 := z2) (by omega) hp
      have hg := wB_lay hu l2
      have s1 := sumW hn hB hg
      have s2 : sW B x n (2 ^ j) ^^^ sW B x n 0 = ph (n - x - 4) (2 ^ j) := by
        rw [sW_ph hB hx (2 ^ j), Nat.xor_comm (sW B x n 0), Nat.xor_assoc, Nat.xor_self, Nat.xor_zero]
      obtain ⟨i, l, m, e1, e2, e3, e4, e5, e6, e7⟩ := addsM b1 b3 b4 hj
      refine Or.inr ⟨(nI (j + 1), g, vp_updL z3 i (lN l), vp_updL z4 i (lN m)), ?_, rfl, ⟨2 ^ j, hg⟩, fun k => if k = i then l else bs k, fun k => if k = i then m else ps k, ?_, ?_, ?_, ?_⟩
      · show q_X12_forge_L95 _ _ _ (f + 1) (nI j) z2 z3 z4 = q_X12_forge_L95 _ _ _ f (nI (j + 1)) g (vp_updL z3 i (lN l)) (vp_updL z4 i (lN m))
        rw [q_X12_forge_L95, if_neg (show ¬ (32 : Int32) ≤ nI j from nI_ge (b := 32) hj (by decide)), k1, nI_shl _ (by omega), Nat.one_mul, l1, Option.bind_some, s1, Option.bind_some, show (1 : Int64) = lN 1 from rfl, lN_shl _ (by omega), Nat.one_mul, lN_xor, s2, e7, Option.bind_some, nI_add]
      · intro k hk
        by_cases e : k = i
        · right
          subst e
          simp only [if_true]
          exact ⟨e3, e4, e5, e6⟩
        · simp only [if_neg e]
          rcases b1 k hk with z | ⟨i1, i2, i3, i4⟩
          · exact Or.inl z
          · exact Or.inr ⟨i1, i2, i3, Nat.lt_of_lt_of_le i4 (Nat.pow_le_pow_right (by decide) (by omega))⟩
      · have hl : l ≠ 0 := by have := Nat.two_pow_pos i; omega
        rw [cn_upd e2 hl 32 e1, b2]
      · intro k hk
        show vp_updL z3 i (lN l) k = lN (if k = i then l else bs k)
        by_cases e : k = i
        · rw [e, updL_eq, if_pos rfl]
        · rw [updL_ne e, if_neg e]; exact b3 k hk
      · intro k hk
        show vp_updL z4 i (lN m) k = lN (if k = i then m else ps k)
        by_cases e : k = i
        · rw [e, updL_eq, if_pos rfl]
        · rw [updL_ne e, if_neg e]; exact b4 k hk)
    10000 0 (nI 0, a50, a63, a64) ⟨rfl, ⟨0, h46⟩, fun _ => 0, fun _ => 0, fun _ _ => Or.inl rfl, by decide, fun i hi => (hz i hi).1, fun i hi => (hz i hi).2⟩ (Nat.zero_le _) (by omega)
  exact ⟨r, hr, bs, ps, g1, cn_full 32 g2, g3, g4⟩
theorem fin145 {k0 : Nat} {bs ps : Nat → Nat} {a63 a64 : Nat → Int64} (hI : BI k0 32 bs ps) (h0 : ∀ i, i < 32 → bs i ≠ 0) (h59 : ∀ i, i < 32 → a63 i = lN (bs i)) (h60 : ∀ i, i < 32 → a64 i = lN (ps i)) : ∀ k f left made, k ≤ 32 → left < 2 ^ k → made < 2 ^ 32 → k < f → ∃ z1 m z3, m < 2 ^ 32 ∧ q_X12_forge_L145 a63 a64 f (lN left) (lN made) (nI k + (-1)) = some (z1, lN m, z3) ∧ ph k0 m = ph k0 made ^^^ left := by
  intro k
  induction k with
  | zero =>
    intro f left made _ hl hm hf
    obtain ⟨f, rfl⟩ : ∃ g, f = g + 1 := ⟨f - 1, by omega⟩
    have e : left = 0 := by omega
    subst e
    exact ⟨lN 0, made, nI 0 + (-1), hm, by rw [q_X12_forge_L145, if_pos (by decide)], (Nat.xor_zero _).symm⟩
  | succ k ih =>
    intro f left made hk hl hm hf
    obtain ⟨f, rfl⟩ : ∃ g, f = g + 1 := ⟨f - 1, by omega⟩
    have hk32 : 2 ^ (k + 1) ≤ 2 ^ 32 := Nat.pow_le_pow_right (by decide) hk
    have hb := bitX (a := left) (k := k) (by omega) (by omega)
    rw [nI_m1 (by omega), show k + 1 - 1 = k by omega, q_X12_forge_L145, if_neg (nI_pos (by omega)), hb]
    cases c : left.testBit k with
    | false =>
      rw [if_pos (show ¬ lg_cmp (lN false.toNat) 1 = 0 by decide)]
      exact ih f left made (by omega) (lt_of_top hl (by rw [c]; decide)) hm (by omega)
    | true =>
      rcases hI k (by omega) with z | ⟨i1, i2, i3, i4⟩
      · exact absurd z (h0 k (by omega))
      · obtain ⟨z1, m, z3, e1, e2, e3⟩ := ih f (left ^^^ bs k) (made ^^^ ps k) (by omega) (xor_top hl i2 c (top_bit i1 i2)) (Nat.xor_lt_two_pow hm i4) (by omega)
        refine ⟨z1, m, z3, e1, ?_, ?_⟩
        · rw [if_neg (show ¬ ¬ lg_cmp (lN true.toNat) 1 = 0 from fun h => h (lgs 1)), if_pos (xinI (by omega) (by omega)), if_pos (xinI (by omega) (by omega)), nI_clamp (by omega), h59 k (by omega), h60 k (by omega), lN_xor, lN_xor]
          exact e2
        · rw [e3, ph_xor, i3, xor4, Nat.xor_self, Nat.xor_zero]

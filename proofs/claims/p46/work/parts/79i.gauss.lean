/-! The reference's forging: the sums of single bits made into a basis. -/
theorem rT_xor (q x y : Nat) : rT q (x ^^^ y) = rT q x ^^^ rT q y := by
  apply Nat.eq_of_testBit_eq
  intro i
  rw [Nat.testBit_xor, rT_bit, rT_bit, rT_bit, Nat.testBit_xor, Nat.testBit_xor]
  cases x.testBit (i + 1) <;> cases y.testBit (i + 1) <;> cases x.testBit 0 <;> cases y.testBit 0 <;> cases q.testBit i <;> rfl
theorem itT_xor (q : Nat) : ∀ k x y, itT q k (x ^^^ y) = itT q k x ^^^ itT q k y := by
  intro k
  induction k with
  | zero => intro x y; rfl
  | succ k ih =>
    intro x y
    show itT q k (rT q (x ^^^ y)) = itT q k (rT q x) ^^^ itT q k (rT q y)
    rw [rT_xor, ih]
theorem mg_xor {B C : Nat → Nat} {a y z : Nat} : ∀ n, mg (fun k => B k ^^^ C k) a (y ^^^ z) n = mg B a y n ^^^ mg C a z n := by
  intro n
  induction n with
  | zero => rfl
  | succ n ih =>
    show itT lM 8 (mg (fun k => B k ^^^ C k) a (y ^^^ z) n ^^^ (B (a + n) ^^^ C (a + n))) = itT lM 8 (mg B a y n ^^^ B (a + n)) ^^^ itT lM 8 (mg C a z n ^^^ C (a + n))
    rw [ih, xor4, itT_xor]
theorem bw_xor (v u k : Nat) : bw (v ^^^ u) k = bw v k ^^^ bw u k := by
  unfold bw
  rw [Nat.xor_div_two_pow, show (256 : Nat) = 2 ^ 8 from rfl, Nat.xor_mod_two_pow]
theorem bw_0 (k : Nat) : bw 0 k = 0 := by
  unfold bw
  rw [Nat.zero_div]
theorem mg_0 {a y : Nat} : ∀ k, mg (fun _ => 0) a y k = itT lM (8 * k) y := by
  intro k
  induction k with
  | zero => rfl
  | succ k ih =>
    show itT lM 8 (mg (fun _ => 0) a y k ^^^ 0) = _
    rw [ih, Nat.xor_zero, ← itT_add, show 8 * k + 8 = 8 * (k + 1) by omega]
/-- how the sum is turned by a word -/
def ph (k v : Nat) : Nat := mg (fun _ => 0) 0 (mg (bw v) 0 0 4) k
theorem ph_xor (k v u : Nat) : ph k (v ^^^ u) = ph k v ^^^ ph k u := by
  unfold ph
  have h1 := mg_xor (B := bw v) (C := bw u) (a := 0) (y := 0) (z := 0) 4
  rw [Nat.xor_self] at h1
  rw [mg_congr (B := bw (v ^^^ u)) (C := fun k => bw v k ^^^ bw u k) (a := 0) (b := 0) 4 (fun i _ => bw_xor v u (0 + i)), h1]
  exact mg_xor (B := fun _ => 0) (C := fun _ => 0) k
theorem ph_0 (k : Nat) : ph k 0 = 0 := by
  have := ph_xor k 0 0
  rw [Nat.xor_self, Nat.xor_self] at this
  exact this
theorem ph_lt (k v : Nat) : ph k v < 2 ^ 32 := by
  unfold ph
  exact mg_lt (mg_lt (by decide) 4 (fun i _ => bw_lt v (0 + i))) k (fun _ _ => by decide)
theorem sw_sw {g : Nat} (hg : g < 4294967296) : sw (sw g) = g := by
  obtain ⟨a, b, c, d, ha, hb, hc, hd, rfl⟩ := sp4 hg
  rw [sw_of ha hb hc hd, sw_of hd hc hb ha]
theorem ph_ker {k v : Nat} (hv : v < 4294967296) (h : ph k v = 0) : v = 0 := by
  unfold ph at h
  rw [mg_0] at h
  have hs := sw_lt hv
  have e : mg (bw v) 0 0 4 = itT lM 32 (sw v) := by
    rw [mg_congr (B := bw v) (C := fun i => sw v / 2 ^ (8 * i) % 256) (a := 0) (b := 0) 4 (fun i hi => by
      rw [Nat.zero_add]
      have := bw_sw hs hi
      rw [sw_sw hv] at this
      exact this), mg_word hs, Nat.zero_xor]
  rw [e] at h
  have h1 := itT_ker _ _ (itT_lt 32 _ hs) h
  have h2 := itT_ker 32 _ hs h1
  have h3 := sw_sw hv
  rw [h2] at h3
  rw [← h3]
  rfl
theorem sW_ph {B : Nat → Nat} {x n : Nat} (hB : ∀ k, k < n → B k < 256) (hx : x + 4 ≤ n) (v : Nat) : sW B x n v = sW B x n 0 ^^^ ph (n - x - 4) v := by
  rw [sW_mg hB hx, sW_mg hB hx]
  generalize hy : mg B 0 (mir lE 32) x = y
  have h1 : mg (bw v) 0 y 4 = mg (bw 0) 0 y 4 ^^^ mg (bw v) 0 0 4 := by
    have := mg_xor (B := bw 0) (C := bw v) (a := 0) (y := y) (z := 0) 4
    rw [Nat.xor_zero] at this
    rw [← this]
    exact mg_congr 4 (fun i _ => by
      show bw v (0 + i) = bw 0 (0 + i) ^^^ bw v (0 + i)
      rw [bw_0, Nat.zero_xor])
  have h2 : mg B (x + 4) (mg (bw 0) 0 y 4 ^^^ mg (bw v) 0 0 4) (n - x - 4) = mg B (x + 4) (mg (bw 0) 0 y 4) (n - x - 4) ^^^ ph (n - x - 4) v := by
    have h3 := mg_xor (B := B) (C := fun _ => 0) (a := x + 4) (y := mg (bw 0) 0 y 4) (z := mg (bw v) 0 0 4) (n - x - 4)
    rw [mg_congr (B := fun k => B k ^^^ 0) (C := B) (a := x + 4) (b := x + 4) (n - x - 4) (fun i _ => Nat.xor_zero _)] at h3
    rw [h3]
    congr 1
    exact mg_congr (n - x - 4) (fun _ _ => rfl)
  rw [h1, h2, Nat.xor_assoc, Nat.xor_comm (ph _ _), ← Nat.xor_assoc]
theorem sW_inj {B : Nat → Nat} {x n v u : Nat} (hB : ∀ k, k < n → B k < 256) (hx : x + 4 ≤ n) (hv : v < 4294967296) (hu : u < 4294967296) (h : sW B x n v = sW B x n u) : v = u := by
  rw [sW_ph hB hx v, sW_ph hB hx u] at h
  have h1 : ph (n - x - 4) v = ph (n - x - 4) u := by
    have := congrArg (fun z => sW B x n 0 ^^^ z) h
    have this : sW B x n 0 ^^^ (sW B x n 0 ^^^ ph (n - x - 4) v) = sW B x n 0 ^^^ (sW B x n 0 ^^^ ph (n - x - 4) u) := this
    rw [← Nat.xor_assoc, ← Nat.xor_assoc, Nat.xor_self, Nat.zero_xor, Nat.zero_xor] at this
    exact this
  have h2 : ph (n - x - 4) (v ^^^ u) = 0 := by rw [ph_xor, h1, Nat.xor_self]
  have h3 := ph_ker (Nat.xor_lt_two_pow (n := 32) hv hu) h2
  have h4 : v ^^^ (v ^^^ u) = v ^^^ 0 := by rw [h3]
  rw [← Nat.xor_assoc, Nat.xor_self, Nat.zero_xor, Nat.xor_zero] at h4
  exact h4.symm
/-! The basis. -/
def BI (k0 j : Nat) (bs ps : Nat → Nat) : Prop := ∀ i, i < 32 → bs i = 0 ∨ (2 ^ i ≤ bs i ∧ bs i < 2 ^ (i + 1) ∧ ph k0 (ps i) = bs i ∧ ps i < 2 ^ j)
theorem bitX {a k : Nat} (ha : a < 4294967296) (hk : k < 32) : (xul (lN a) (nI k)) &&& (1 : Int64) = lN (a.testBit k).toNat := by
  rw [lN_xul (by omega) (by omega), show (1 : Int64) = lN 1 from rfl, lN_and, and1, tb_div]
def cn (bs : Nat → Nat) : Nat → Nat
  | 0 => 0
  | n + 1 => cn bs n + (if bs n = 0 then 0 else 1)
theorem cn_le (bs : Nat → Nat) : ∀ n, cn bs n ≤ n := by
  intro n
  induction n with
  | zero => exact Nat.le_refl 0
  | succ n ih =>
    show cn bs n + (if bs n = 0 then 0 else 1) ≤ n + 1
    split <;> omega
theorem cn_full {bs : Nat → Nat} : ∀ n, cn bs n = n → ∀ i, i < n → bs i ≠ 0 := by
  intro n
  induction n with
  | zero => intro _ i hi; exact absurd hi (Nat.not_lt_zero i)
  | succ n ih =>
    intro h i hi
    have h1 := cn_le bs n
    have h : cn bs n + (if bs n = 0 then 0 else 1) = n + 1 := h
    by_cases c : bs n = 0
    · rw [if_pos c] at h; omega
    · rw [if_neg c] at h
      by_cases e : i = n
      · rw [e]; exact c
      · exact ih (by omega) i (by omega)
theorem cn_congr {bs cs : Nat → Nat} : ∀ n, (∀ i, i < n → bs i = cs i) → cn bs n = cn cs n := by
  intro n
  induction n with
  | zero => intro _; rfl
  | succ n ih =>
    intro h
    show cn bs n + (if bs n = 0 then 0 else 1) = cn cs n + (if cs n = 0 then 0 else 1)
    rw [ih (fun i hi => h i (by omega)), h n (by omega)]
theorem cn_upd {bs : Nat → Nat} {i l : Nat} (h0 : bs i = 0) (hl : l ≠ 0) : ∀ n, i < n → cn (fun k => if k = i then l else bs k) n = cn bs n + 1 := by
  intro n
  induction n with
  | zero => intro hi; exact absurd hi (Nat.not_lt_zero i)
  | succ n ih =>
    intro hi
    show cn (fun k => if k = i then l else bs k) n + (if (if n = i then l else bs n) = 0 then 0 else 1) = cn bs n + (if bs n = 0 then 0 else 1) + 1
    by_cases e : n = i
    · subst e
      rw [cn_congr (cs := bs) n (fun k hk => if_neg (by omega)), if_pos rfl, if_neg hl, if_pos h0]
    · rw [ih (by omega), if_neg e]
      omega
theorem wB_lay {x v u n : Nat} {B : Nat → Nat} {g a50 : Nat → Int32} (h : ∀ k, k < n → a50 k = nI (wB B x u k)) (hg : ∀ k, g k = if x ≤ k ∧ k < x + 4 then nI (bw v (k - x)) else a50 k) : ∀ k, k < n → g k = nI (wB B x v k) := by
  intro k hk
  rw [hg]
  by_cases c : x ≤ k ∧ k < x + 4
  · rw [if_pos c]
    unfold wB
    rw [if_pos c]
  · rw [if_neg c, h k hk]
    unfold wB
    rw [if_neg c, if_neg c]

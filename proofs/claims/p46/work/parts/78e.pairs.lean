/-! Words and pairs of sums in the library's sum; a leaf's sum. -/
def bw (x k : Nat) : Nat := x / 2 ^ (24 - 8 * k) % 256
theorem bw_lt (x k : Nat) : bw x k < 256 := Nat.mod_lt _ (by decide)
theorem bwC {x k : Nat} (hx : x < 4294967296) (hk : k < 4) : t_X11_byteOfWord (nI x) (nI k) = nI (bw x k) := by
  unfold t_X11_byteOfWord bw
  rw [show (8 : Int32) * nI k = nI (8 * k) from nI_mul 8 k, show (24 : Int32) - nI (8 * k) = nI (24 - 8 * k) from nI_sub (a := 24) (by omega), nI_xus hx (by omega), show (255 : Int32) = nI (2 ^ 8 - 1) from rfl, nI_and, Nat.and_two_pow_sub_one_eq_mod]
theorem fedWord {r x n : Nat} (hx : x < 4294967296) (hn : n ≤ 4) : q_X2_fedWord (nI (mir r 32)) (nI x) (nI n) = some (nI (mir (reg 32 lP 1 (bw x) 0 r n) 32)) := by
  obtain ⟨u, hu, g⟩ := loop_inv (F := fun f (y : Int32 × Int32) => q_X2_fedWord_L5 (nI x) (nI n) f y.1 y.2)
    (fun j y => y = (nI (mir (reg 32 lP 1 (bw x) 0 r j) 32), nI j)) (fun u => u.1 = nI (mir (reg 32 lP 1 (bw x) 0 r n) 32)) n
    (fun f y h => by
      subst h
      exact ⟨_, by show q_X2_fedWord_L5 _ _ (f + 1) (nI _) (nI _) = _; rw [q_X2_fedWord_L5, if_pos (nI_le (by omega) (by omega))], rfl⟩)
    (fun f j y hj hy => by
      subst hy
      refine Or.inr ⟨_, ?_, rfl⟩
      have er : reg 32 lP 1 (bw x) 0 r (j + 1) = feed 32 lP 1 (reg 32 lP 1 (bw x) 0 r j) (bw x j) := by
        show feed _ _ _ _ (bw x (0 + j)) = _
        rw [Nat.zero_add]
      show q_X2_fedWord_L5 _ _ (f + 1) (nI _) (nI j) = q_X2_fedWord_L5 _ _ f (nI (mir (reg 32 lP 1 (bw x) 0 r (j + 1)) 32)) (nI (j + 1))
      rw [er, q_X2_fedWord_L5, if_neg (nI_ge hj (by omega)), bwC hx (by omega), libFeed (bw_lt x j), Option.bind_some, nI_1])
    10000 0 (nI (mir r 32), nI 0) rfl (Nat.zero_le _) (by omega)
  have hu' : q_X2_fedWord_L5 (nI x) (nI n) 10000 (nI (mir r 32)) 0 = some u := hu
  unfold q_X2_fedWord
  rw [hu', Option.bind_some, g]
theorem m1E : (-1 : Int32) = nI (mir lE 32) := by decide +kernel
def wS (x n : Nat) : Nat := outS 32 1 lE (reg 32 lP 1 (bw x) 0 lE n)
def pr (x y : Nat) : Nat := outS 32 1 lE (reg 32 lP 1 (bw y) 0 (reg 32 lP 1 (bw x) 0 lE 4) 4)
theorem lib_lt {B : Nat → Nat} {a s n : Nat} (hs : s < 2 ^ 32) : outS 32 1 lE (reg 32 lP 1 B a s n) < 4294967296 := outS_lt (w := 32) (by decide) (reg_lt (by decide) hs n)
theorem pr_lt (x y : Nat) : pr x y < 4294967296 := lib_lt (reg_lt (by decide) (by decide) 4)
theorem wS_lt (x n : Nat) : wS x n < 4294967296 := lib_lt (by decide)
theorem wordC {x n : Nat} (hx : x < 4294967296) (hn : n ≤ 4) : q_X2_sumOfWord (nI x) (nI n) = some (lN (wS x n)) := by
  unfold q_X2_sumOfWord wS
  rw [m1E, fedWord hx hn, Option.bind_some, libOut]
theorem pairC {x y : Nat} (hx : x < 4294967296) (hy : y < 4294967296) : q_X2_sumOfPair (lN x) (lN y) = some (lN (pr x y)) := by
  unfold q_X2_sumOfPair pr
  rw [lN_i, lN_i, m1E, show (4 : Int32) = nI 4 from rfl, fedWord hx (Nat.le_refl 4), Option.bind_some, fedWord hy (Nat.le_refl 4), Option.bind_some, libOut]
theorem reg_two {w p mi s : Nat} {X Y : Nat → Nat} (m : Nat) : reg w p mi (fun k => if k < m then X k else Y (k - m)) 0 s (m + m) = reg w p mi Y 0 (reg w p mi X 0 s m) m := by
  have h := reg_app (w := w) (p := p) (mi := mi) (a := 0) (s := s) (n := m) (B := fun k => if k < m then X k else Y (k - m)) m
  have h1 := reg_congr (w := w) (p := p) (mi := mi) (a := 0) (s := s) (B := fun k => if k < m then X k else Y (k - m)) (C := X) m (fun k hk => if_pos (by omega))
  have h2 := reg_shift (w := w) (p := p) (mi := mi) (s := reg w p mi X 0 s m) (B := fun k => if k < m then X k else Y (k - m)) (C := Y) (a := 0 + m) m (fun k hk => by
    show Y k = if 0 + m + k < m then _ else Y (0 + m + k - m)
    rw [if_neg (by omega), show 0 + m + k - m = k by omega])
  rw [h, h1, h2]
theorem pr_reg (x y : Nat) : reg 32 lP 1 (fun k => if k < 4 then bw x k else bw y (k - 4)) 0 lE 8 = reg 32 lP 1 (bw y) 0 (reg 32 lP 1 (bw x) 0 lE 4) 4 := reg_two 4
/-- the sum of leaf i of n bytes -/
def lf (B : Nat → Nat) (n i : Nat) : Nat := outS 32 1 lE (reg 32 lP 1 B (4 * i) lE (min n (4 * i + 4) - 4 * i))
theorem lf_lt (B : Nat → Nat) (n i : Nat) : lf B n i < 4294967296 := lib_lt (by decide)
theorem leafC {n i : Nat} {B : Nat → Nat} {a2 : Nat → Int32} (hn : n ≤ 64) (hi : 4 * i < n) (hB : ∀ k, k < n → B k < 256 ∧ a2 k = nI (B k)) : q_X2_sumOf (nI (4 * i)) (nI (min n (4 * i + 4))) a2 = some (lN (lf B n i)) :=
  libSum (by omega) (by omega) (fun k hk => hB k (by omega))

/-! What was kept comes back; bytes that are put, forged, undone. -/
def SL (a5 a6 : Nat → Int32) (s n : Nat) (R : Nat → Int32) : Prop := a6 s = nI n ∧ ∀ k, k < n → a5 (64 * s + k) = R k
section PAST
variable {p q n : Nat} {a5 a6 a2 R : Nat → Int32} {c : Int32} {B : Nat → Nat}
theorem keepT (hp : p < 10) (hq : q ≤ 10) (hn : n ≤ 64) : ∃ a6' a5', q_X3_keep (nI p) (nI q) (nI 64) (nI n) a6 a5 a2 = some (nI ((p + 1) % 10), nI (min (q + 1) 10), a6', a5') ∧ SL a5' a6' p n a2 ∧ ∀ s m R, s ≠ p → s < 10 → m ≤ 64 → SL a5 a6 s m R → SL a5' a6' s m R := by
  obtain ⟨v, h, h1, h2⟩ := keepC (a6 := a6) (a5 := a5) (a2 := a2) hp hq hn
  refine ⟨upd a6 p (nI n), v, h, ⟨upd_eq, h1⟩, fun s m R hs hs2 hm hS => ⟨?_, fun k hk => ?_⟩⟩
  · rw [upd_ne hs]; exact hS.1
  · rw [h2 _ (by omega)]; exact hS.2 k hk
theorem undoT (hp : p < 10) (h1 : 1 ≤ q) (hq : q ≤ 10) (hn : n ≤ 64) (hs : SL a5 a6 ((p + 9) % 10) n R) : ∃ g, q_L_undo (nI p) (nI q) (nI 64) a6 a5 a2 c = some (nI n, false, nI ((p + 9) % 10), nI (q - 1), g, nI n) ∧ ∀ k, k < n → g k = R k := by
  obtain ⟨g, g1, g2⟩ := readC (a2 := a2) (a5 := a5) (show (p + 9) % 10 < 10 by omega) hn hs.1
  have e1 : (nI p + 10 - 1) - (nI p + 10 - 1) / 10 * 10 = nI ((p + 9) % 10) := by
    rw [k10, nI_add, nI_pred' (by omega), show p + 10 - 1 = p + 9 by omega, nI_mod (by omega) (by omega) (by omega)]
  have e2 : (if nI q - 1 < 0 then (0 : Int32) else nI q - 1) = nI (q - 1) := by
    rw [nI_pred' (by omega), if_neg (nI_pos (by omega))]
  have c1 : ¬ nI q ≤ (0 : Int32) := nI_ge (a := 0) (by omega) (by omega)
  refine ⟨g, ?_, fun k hk => by rw [g2 k hk]; exact hs.2 k hk⟩
  simp only [q_L_undo, q_X11_undo, t_X3_hasSome, if_neg c1, ite10, q_X3_giveBack, e1, g1, Option.bind_some, e2, xbnd, t_X5_size]
theorem putT {x v : Nat} (hp : p < 10) (hq : q ≤ 10) (hn : n ≤ 64) (hx : x < n) (hv : v < 256) : ∃ a6' a5', q_L_put (nI x) (nI v) (nI n) (nI p) (nI q) (nI 64) a6 a5 a2 = some (a2 x, false, nI ((p + 1) % 10), nI (min (q + 1) 10), a6', a5', upd a2 x (nI v)) ∧ SL a5' a6' p n a2 ∧ ∀ s m R, s ≠ p → s < 10 → m ≤ 64 → SL a5 a6 s m R → SL a5' a6' s m R := by
  obtain ⟨a6', a5', h, h1, h2⟩ := keepT (a6 := a6) (a5 := a5) (a2 := a2) hp hq hn
  refine ⟨a6', a5', ?_, h1, h2⟩
  have e : q_X11_put (nI x) (nI v) (nI n) (nI p) (nI q) (nI 64) a6 a5 a2 = some (.inr (a2 x), (nI ((p + 1) % 10), nI (min (q + 1) 10), a6', a5', upd a2 x (nI v))) := by
    unfold q_X11_put
    rw [rpT hx (by omega), xbnd_r, rbT hv, xbnd_r, h, Option.bind_some, atI (by omega) (by omega), chI (by omega) (by omega)]
  unfold q_L_put
  rw [e, xbnd_r]
theorem forgeT {x t : Nat} (hp : p < 10) (hq : q ≤ 10) (hn : n ≤ 64) (hx : x + 4 ≤ n) (ht : t < 4294967296) (hB : ∀ k, k < n → B k < 256 ∧ a2 k = nI (B k)) :
    ∃ v r a6' a5', v < 4294967296 ∧ sW B x n v = t ∧ (∀ k, k < n → r k = nI (wB B x v k)) ∧ q_L_forge (nI x) (lN t) (nI n) a2 (nI p) (nI q) (nI 64) a6 a5 = some (0, false, r, nI ((p + 1) % 10), nI (min (q + 1) 10), a6', a5') ∧ SL a5' a6' p n a2 ∧ ∀ s m R, s ≠ p → s < 10 → m ≤ 64 → SL a5 a6 s m R → SL a5' a6' s m R := by
  obtain ⟨a6', a5', h, h1, h2⟩ := keepT (a6 := a6) (a5 := a5) (a2 := a2) hp hq hn
  obtain ⟨v, v1, v2, v3⟩ := forgeC (a2 := a2) hx hn ht hB
  obtain ⟨r, r1, r2⟩ := row76 (a2 := a2) (show x + 4 ≤ 64 by omega) v1
  refine ⟨v, r.2, a6', a5', v1, v3, fun k hk => ?_, ?_, h1, h2⟩
  · rw [r2]
    unfold wB
    by_cases c : x ≤ k ∧ k < x + 4
    · rw [if_pos c, if_pos c]
    · rw [if_neg c, if_neg c]; exact (hB k hk).2
  · have c1 : ¬ nI x < 0 := nI_pos (by omega)
    have c2 : nI x ≤ nI n - 4 := by rw [leI, sub4 hn, nI_toInt (by omega)]; omega
    have d1 : ¬ lg_cmp (lN t) 0 < 0 := lg_nn (by omega)
    have d2 : lg_cmp (lN t) 4294967295 ≤ 0 := by
      rw [lg_cmp_le, Int64.le_iff_toInt_le, lN_toInt' (by omega)]
      show _ ≤ (4294967295 : Int)
      omega
    have e1 : q_X11_forge (nI x) (lN t) (nI n) a2 (nI p) (nI q) (nI 64) a6 a5 = some (.inr (nI v), (r.2, nI ((p + 1) % 10), nI (min (q + 1) 10), a6', a5')) := by
      unfold q_X11_forge
      rw [if_neg c1, show t_X5_size (nI n) = nI n from rfl, if_pos c2, if_neg d1, if_pos d2, v2, Option.bind_some, h, Option.bind_some, r1, Option.bind_some]
    have e0 : nI v &&& 0 = 0 := by
      show nI v &&& nI 0 = nI 0
      rw [nI_and, Nat.and_zero]
    unfold q_L_forge
    rw [e1, xbnd_r, e0]
theorem forgeP {x2 : Int64} {x3 x4 x5 : Int32} (h3 : 3 ≤ n) (hn : n ≤ 64) : q_L_forge (nI (n - 3)) x2 (nI n) a2 x3 x4 x5 a6 a5 = some (-1, true, a2, x3, x4, a6, a5) := by
  have e1 : q_X11_forge (nI (n - 3)) x2 (nI n) a2 x3 x4 x5 a6 a5 = some (.inl 2, (a2, x3, x4, a6, a5)) := by
    unfold q_X11_forge
    rw [if_neg (nI_pos (by omega)), show t_X5_size (nI n) = nI n from rfl, if_neg]
    rw [leI, sub4 hn, nI_toInt (by omega)]
    omega
  unfold q_L_forge
  rw [e1, xbnd_l, if_pos rfl]
theorem forgeS {x : Nat} {x3 x4 x5 : Int32} (hx : x + 4 ≤ n) (hn : n ≤ 64) : q_L_forge (nI x) 4294967296 (nI n) a2 x3 x4 x5 a6 a5 = some (-2, true, a2, x3, x4, a6, a5) := by
  have c2 : nI x ≤ nI n - 4 := by rw [leI, sub4 hn, nI_toInt (by omega)]; omega
  have e1 : q_X11_forge (nI x) 4294967296 (nI n) a2 x3 x4 x5 a6 a5 = some (.inl 0, (a2, x3, x4, a6, a5)) := by
    unfold q_X11_forge
    rw [if_neg (nI_pos (by omega)), show t_X5_size (nI n) = nI n from rfl, if_pos c2, if_neg (show ¬ lg_cmp 4294967296 0 < 0 by decide), if_neg (show ¬ lg_cmp 4294967296 4294967295 ≤ 0 by decide)]
  unfold q_L_forge
  rw [e1, xbnd_l, if_neg (show ¬ (0 : Nat) = 2 by decide), if_pos rfl]
end PAST
theorem libNe {B : Nat → Nat} {n x v : Nat} (hx : x < n) (hb : B x < 256) (hv : v < 256) (hne : ¬ v = B x) : outS 32 1 lE (reg 32 lP 1 (fun k => if k = x then v else B k) 0 lE n) ≠ outS 32 1 lE (reg 32 lP 1 B 0 lE n) := by
  intro h
  have hs : lE < 2 ^ 32 := by decide
  have hp : lP < 2 ^ 32 := by decide
  have r1 := reg_lt (mi := 1) (B := fun k => if k = x then v else B k) (a := 0) hp hs n
  have r2 := reg_lt (mi := 1) (B := B) (a := 0) hp hs n
  rw [reg_change (w := 32) (by decide) hx] at h r1
  have hd : B x ^^^ v < 256 := Nat.xor_lt_two_pow (n := 8) hb hv
  have hf := feed_lt (w := 32) (p := lP) (mi := 1) (r := 0) (v := B x ^^^ v) hp (Nat.two_pow_pos 32)
  generalize hr : reg 32 lP 1 B 0 lE n = r at h r1 r2
  generalize hi : iT 32 lP (8 * (n - 1 - x)) (feed 32 lP 1 0 (B x ^^^ v)) = i at h r1
  have h2 : mir (r ^^^ i) 32 = mir r 32 := by
    have h3 : mir (r ^^^ i) 32 ^^^ lE = mir r 32 ^^^ lE := h
    have h4 := congrArg (fun z => z ^^^ lE) h3
    try dsimp only at h4
    rw [xor_cancel, xor_cancel] at h4
    exact h4
  have h3 := congrArg (fun z => mir z 32) h2
  try dsimp only at h3
  rw [mir_mir r1, mir_mir r2] at h3
  have h4 : i = 0 := by
    have h5 := congrArg (fun z => r ^^^ z) h3
    try dsimp only at h5
    rw [← Nat.xor_assoc, Nat.xor_self, Nat.zero_xor] at h5
    exact h5
  subst h4
  have h5 := iT_ker (w := 32) (p := lP) (by decide) hp (by decide) hf _ hi
  have h6 := mir_feed (w := 32) (p := lP) (r := 0) (v := B x ^^^ v) (by decide) hd
  rw [h5, show mir 0 32 = 0 from by decide +kernel, lPM, Nat.zero_xor] at h6
  have h7 := itT_ker 8 _ (by omega) h6.symm
  refine hne ?_
  have h8 := congrArg (fun z => B x ^^^ z) h7
  try dsimp only at h8
  rw [← Nat.xor_assoc, Nat.xor_self, Nat.zero_xor, Nat.xor_zero] at h8
  exact h8

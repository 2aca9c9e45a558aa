/-! Polynomials on shelves, and which of them are products of a given one. -/
def SH (a10 a11 : Nat → Int64) (P : Nat → Nat) : Prop := ∀ s, s < 8 → P s < 2 ^ 96 ∧ a10 s = pL (P s) ∧ a11 s = pH (P s)
def upN (P : Nat → Nat) (s X : Nat) : Nat → Nat := fun k => if k = s then X else P k
theorem upN_eq {P : Nat → Nat} {s X : Nat} : upN P s X s = X := if_pos rfl
theorem upN_ne {P : Nat → Nat} {s X k : Nat} (h : k ≠ s) : upN P s X k = P k := if_neg h
theorem SH_put {P : Nat → Nat} {a10 a11 : Nat → Int64} {s X : Nat} (h : SH a10 a11 P) (hX : X < 2 ^ 96) : SH (vp_updL a10 s (pL X)) (vp_updL a11 s (pH X)) (upN P s X) := by
  intro k hk
  by_cases c : k = s
  · subst c
    rw [upN_eq]
    exact ⟨hX, updL_eq, updL_eq⟩
  · rw [upN_ne c]
    obtain ⟨h1, h2, h3⟩ := h k hk
    exact ⟨h1, (updL_ne c).trans h2, (updL_ne c).trans h3⟩
/-- products of Q -/
def pdv (Q A : Nat) : Prop := ∃ n c, c < 2 ^ n ∧ A = cm c Q n
theorem cm_1Q (Q n : Nat) : cm 1 Q (n + 1) = Q := by
  rw [cm_ge (k := 1) (by decide) (show 1 ≤ n + 1 by omega), cm_T (k := 0) (by decide)]
  show 0 ^^^ Q * 2 ^ 0 = Q
  rw [Nat.zero_xor, Nat.pow_zero, Nat.mul_one]
theorem pdv_self (Q : Nat) : pdv Q Q := ⟨1, 1, by decide, (cm_1Q Q 0).symm⟩
theorem pdv_xor {Q A B : Nat} (h1 : pdv Q A) (h2 : pdv Q B) : pdv Q (A ^^^ B) := by
  obtain ⟨n, c, hc, rfl⟩ := h1
  obtain ⟨m, e, he, rfl⟩ := h2
  have hc' : c < 2 ^ max n m := Nat.lt_of_lt_of_le hc (Nat.pow_le_pow_right (by decide) (Nat.le_max_left n m))
  have he' : e < 2 ^ max n m := Nat.lt_of_lt_of_le he (Nat.pow_le_pow_right (by decide) (Nat.le_max_right n m))
  refine ⟨max n m, c ^^^ e, Nat.xor_lt_two_pow hc' he', ?_⟩
  rw [cm_xL, cm_ge hc (Nat.le_max_left n m), cm_ge he (Nat.le_max_right n m)]
theorem pdv_small {Q b A : Nat} (q1 : 2 ^ b ≤ Q) (q2 : Q < 2 ^ (b + 1)) (hA : A < 2 ^ b) (h : pdv Q A) : A = 0 := by
  obtain ⟨n, c, hc, rfl⟩ := h
  by_cases z : c = 0
  · rw [z, cm_0]
  · obtain ⟨g1, g2⟩ := lg2 z
    obtain ⟨d1, -⟩ := cm_deg g1 g2 q1 q2 (lg12 z hc)
    have : 2 ^ b ≤ 2 ^ (c.log2 + b) := Nat.pow_le_pow_right (by decide) (by omega)
    omega
theorem rest0 {Q b A : Nat} (q1 : 2 ^ b ≤ Q) (q2 : Q < 2 ^ (b + 1)) (hb : b ≤ 95) (hA : A < 2 ^ 96) : (dv Q b (96 - b) A 0).1 = 0 ↔ pdv Q A := by
  obtain ⟨u, u1, u2, u3⟩ := dv_cm (Q := Q) (b := b) (96 - b) A 0
  have hr := dv_rest q1 q2 (96 - b) A 0 (by rw [show 96 - b + b = 96 by omega]; exact hA)
  generalize (dv Q b (96 - b) A 0).1 = R at hr u3 ⊢
  constructor
  · intro h
    subst h
    rw [Nat.zero_xor] at u3
    exact ⟨96 - b, u, u1, u3⟩
  · intro h
    have h2 := pdv_xor h ⟨96 - b, u, u1, rfl⟩
    rw [u3, Nat.xor_assoc, Nat.xor_self, Nat.xor_zero] at h2
    exact pdv_small q1 q2 hr h2
theorem cm_inj {Q u v n : Nat} (h0 : Q ≠ 0) (hu : u < 2 ^ n) (hv : v < 2 ^ n) (h : cm u Q n = cm v Q n) : u = v := by
  apply xor0
  have e : cm (u ^^^ v) Q n = 0 := by rw [cm_xL, h, Nat.xor_self]
  by_cases z : u ^^^ v = 0
  · exact z
  · exfalso
    obtain ⟨g1, g2⟩ := lg2 z
    obtain ⟨k1, k2⟩ := lg2 h0
    obtain ⟨d1, -⟩ := cm_deg g1 g2 k1 k2 (lg12 z (Nat.xor_lt_two_pow hu hv))
    have := Nat.two_pow_pos ((u ^^^ v).log2 + Q.log2)
    omega
theorem quot {Q b A X : Nat} (q1 : 2 ^ b ≤ Q) (q2 : Q < 2 ^ (b + 1)) (hb : b ≤ 95) (hA : A < 2 ^ 96) (hX : X < 2 ^ 96) (h : A = cm X Q 96) : (dv Q b (96 - b) A 0).1 = 0 ∧ (dv Q b (96 - b) A 0).2 = X := by
  have h1 : (dv Q b (96 - b) A 0).1 = 0 := (rest0 q1 q2 hb hA).mpr ⟨96, X, hX, h⟩
  obtain ⟨u, u1, u2, u3⟩ := dv_cm (Q := Q) (b := b) (96 - b) A 0
  refine ⟨h1, ?_⟩
  rw [h1, Nat.zero_xor] at u3
  rw [u2, Nat.zero_xor]
  have h0 : Q ≠ 0 := by have := Nat.two_pow_pos b; omega
  refine cm_inj h0 (Nat.lt_of_lt_of_le u1 (Nat.pow_le_pow_right (by decide) (by omega))) hX ?_
  rw [cm_ge u1 (show 96 - b ≤ 96 by omega), ← u3, h]
theorem pdv_sh {Q A : Nat} (j : Nat) (h : pdv Q A) : pdv Q (A * 2 ^ j) := by
  obtain ⟨n, c, hc, rfl⟩ := h
  refine ⟨n + j, c * 2 ^ j, ?_, (cm_shL c Q j n).symm⟩
  rw [Nat.pow_add]
  exact Nat.mul_lt_mul_of_pos_right hc (Nat.two_pow_pos j)
theorem pdv_half {Q A : Nat} (ho : Q.testBit 0 = true) (h : pdv Q (A * 2)) : pdv Q A := by
  obtain ⟨n, c, hc, h⟩ := h
  have h2 : A * 2 = cm c Q (n + 1) := by rw [cm_ge hc (by omega)]; exact h
  have e1 : cm (c / 2 * 2) Q (n + 1) = cm (c / 2) Q n * 2 := cm_shL (c / 2) Q 1 n
  by_cases o : c % 2 = 0
  · refine ⟨n, c / 2, by omega, ?_⟩
    rw [show c / 2 * 2 = c by omega] at e1
    omega
  · exfalso
    have ec : c = (c / 2 * 2) ^^^ 1 := by
      have := mul_add_xor (a := 1) (i := 1) (c / 2) (by decide)
      rw [Nat.pow_one, Nat.mul_comm 2] at this
      omega
    rw [ec, cm_xL, e1, cm_1Q] at h2
    have h3 := congrArg (fun z => z.testBit 0) h2
    try dsimp only at h3
    have ev : ∀ z : Nat, (z * 2).testBit 0 = false := fun z => by rw [Nat.testBit_zero]; simp
    rw [Nat.testBit_xor, ev, ev, ho] at h3
    exact absurd h3 (by decide)
theorem pdv_un {Q A : Nat} (ho : Q.testBit 0 = true) : ∀ j, pdv Q (A * 2 ^ j) → pdv Q A := by
  intro j
  induction j with
  | zero => intro h; rw [Nat.pow_zero, Nat.mul_one] at h; exact h
  | succ j ih =>
    intro h
    rw [Nat.pow_succ, ← Nat.mul_assoc] at h
    exact ih (pdv_half ho h)
/-! What a run leaves, told of its parts. -/
def Sat {α : Type} (m : Option α) (Q : α → Prop) : Prop := ∃ z, m = some z ∧ Q z
section SAT
variable {α β γ : Type} {Q : β → Prop}
theorem sx {m : Option ((Nat ⊕ α) × γ)} {v : α} {R : γ → Prop} {fe : Nat → γ → Option β} {fv : α → γ → Option β} (h : ∃ c, m = some (.inr v, c) ∧ R c) (k : ∀ c, R c → Sat (fv v c) Q) : Sat (xbnd m fe fv) Q := by
  obtain ⟨c, h, r⟩ := h
  rw [h]
  exact k c r
theorem sxv {m : Option ((Nat ⊕ α) × γ)} {R : α → γ → Prop} {fe : Nat → γ → Option β} {fv : α → γ → Option β} (h : ∃ v c, m = some (.inr v, c) ∧ R v c) (k : ∀ v c, R v c → Sat (fv v c) Q) : Sat (xbnd m fe fv) Q := by
  obtain ⟨v, c, h, r⟩ := h
  rw [h]
  exact k v c r
theorem sxe {m : Option ((Nat ⊕ α) × γ)} {v : α} {c : γ} {fe : Nat → γ → Option β} {fv : α → γ → Option β} (h : m = some (.inr v, c)) (k : Sat (fv v c) Q) : Sat (xbnd m fe fv) Q := by
  rw [h]
  exact k
theorem sb {m : Option α} {R : α → Prop} {f : α → Option β} (h : Sat m R) (k : ∀ x, R x → Sat (f x) Q) : Sat (m.bind f) Q := by
  obtain ⟨x, h, r⟩ := h
  rw [h]
  exact k x r
theorem se {m : Option α} {x : α} {f : α → Option β} (h : m = some x) (k : Sat (f x) Q) : Sat (m.bind f) Q := by
  rw [h]
  exact k
theorem sN {c : Prop} [Decidable c] {a b : Option β} (h : ¬ c) (k : Sat b Q) : Sat (if c then a else b) Q := by
  rw [if_neg h]
  exact k
theorem sP {c : Prop} [Decidable c] {a b : Option β} (h : c) (k : Sat a Q) : Sat (if c then a else b) Q := by
  rw [if_pos h]
  exact k
end SAT
section SHELF
variable {a10 a11 : Nat → Int64} {P : Nat → Nat} {x y x' y' x'' y'' : Int64} {w p : Nat}
theorem polyT {s a b : Nat} (hs : s < 8) (ha : a < 4294967296) (hb : b < 4294967296) (h : SH a10 a11 P) :
    ∃ c, q_X11_polynomial (nI s) (nI a) (nI b) a10 a11 x y = some (.inr (dgI (2 ^ 32 * b + a)), c) ∧ SH c.1 c.2.1 (upN P s (2 ^ 32 * b + a)) := by
  have hP : 2 ^ 32 * b + a < 2 ^ 64 := by omega
  have e1 : ((nI a).toInt64 &&& 4294967295) ||| ((nI b).toInt64 <<< ((32 : Int32).toInt64 &&& 63)) = pL (2 ^ 32 * b + a) := by
    rw [nI_mask ha, shl32 hb, lN_or, or_add ha]
    unfold pL
    rw [Nat.mod_eq_of_lt hP]
  have e2 : (0 : Int64) = pH (2 ^ 32 * b + a) := by
    unfold pH
    rw [Nat.div_eq_of_lt hP]
    rfl
  have e3 := putS (a10 := a10) (a11 := a11) hs (show 2 ^ 32 * b + a < 2 ^ 96 by omega)
  have e5 : q_X11_polynomial (nI s) (nI a) (nI b) a10 a11 x y = some (.inr (dgI (2 ^ 32 * b + a)), (vp_updL a10 s (pL (2 ^ 32 * b + a)), vp_updL a11 s (pH (2 ^ 32 * b + a)), pL (2 ^ 32 * b + a), pH (2 ^ 32 * b + a))) := by
    unfold q_X11_polynomial t_X4_become
    rw [rsT hs, e1, e2]
    show Option.bind (q_X11_putOnShelf (nI s) a10 a11 (pL _) (pH _)) _ = _
    rw [e3]
    rfl
  exact ⟨_, e5, SH_put h (by omega)⟩
theorem kindT {s : Nat} (hs : s < 8) (h : w ≤ 32) (hp : p < 2 ^ w) (hS : SH a10 a11 P) :
    ∃ c, q_X11_ofKind (nI s) a10 a11 (nI w) (nI p) x y = some (.inr (nI w), c) ∧ SH c.1 c.2.1 (upN P s (2 ^ w + p)) := by
  obtain ⟨n1, n2, n3⟩ := numK h hp
  have e3 := putS (a10 := a10) (a11 := a11) hs (show 2 ^ w + p < 2 ^ 96 by omega)
  have ed : dgI (2 ^ w + p) = nI w := log_of (Nat.le_add_right _ _) (by rw [Nat.pow_succ]; omega)
  rw [ed] at e3
  have e5 : q_X11_ofKind (nI s) a10 a11 (nI w) (nI p) x y = some (.inr (nI w), (vp_updL a10 s (pL (2 ^ w + p)), vp_updL a11 s (pH (2 ^ w + p)), pL (2 ^ w + p), pH (2 ^ w + p))) := by
    unfold q_X11_ofKind t_X4_become
    rw [rsT hs, n1, n2]
    show Option.bind (q_X11_putOnShelf (nI s) a10 a11 (pL _) (pH _)) _ = _
    rw [e3]
    rfl
  exact ⟨_, e5, SH_put hS (by omega)⟩
theorem bitsT {s t : Nat} (hs : s < 8) (ht : t < 3) (h : SH a10 a11 P) : q_X11_bits (nI s) (nI t) a10 a11 x y = some (.inr (nI (P s / 2 ^ (32 * t))), (a10 s, a11 s)) := by
  obtain ⟨h1, h2, h3⟩ := h s hs
  unfold q_X11_bits
  rw [rsT hs]
  show (if nI t < 0 then _ else if nI t ≤ 2 then _ else _) = _
  rw [if_neg (nI_pos (by omega)), if_pos (show nI t ≤ 2 from nI_le (b := 2) (by omega) (by decide)), takeS hs, Option.bind_some, h2, h3]
  show some (Sum.inr (t_X4_part (nI t) (pL (P s)) (pH (P s))), _) = _
  rw [partC h1 ht]
theorem joinP {s t u : Nat} (hs : s < 8) (ht : t < 8) (hu : u < 8) (h : SH a10 a11 P) (hl : P t = 0 ∨ P u = 0 ∨ (P t).log2 + (P u).log2 ≤ 95) :
    ∃ c, q_X11_join (nI s) (nI t) (nI u) 1 a10 a11 x y x' y' x'' y'' = some (.inr (dgI (cm (P t) (P u) 96)), c) ∧ SH c.1 c.2.1 (upN P s (cm (P t) (P u) 96)) := by
  obtain ⟨h1, h2, h3⟩ := h t ht
  obtain ⟨g1, g2, g3⟩ := h u hu
  exact ⟨_, joinCp hs ht hu h1 g1 h2 h3 g2 g3 hl, SH_put h (cm_lt (fitsQ h1 g1 hl) 96 (Nat.le_refl _))⟩
theorem joinS {s t u : Nat} (hs : s < 8) (ht : t < 8) (hu : u < 8) (h : SH a10 a11 P) :
    ∃ c, q_X11_join (nI s) (nI t) (nI u) 0 a10 a11 x y x' y' x'' y'' = some (.inr (dgI (P t ^^^ P u)), c) ∧ SH c.1 c.2.1 (upN P s (P t ^^^ P u)) := by
  obtain ⟨h1, h2, h3⟩ := h t ht
  obtain ⟨g1, g2, g3⟩ := h u hu
  exact ⟨_, joinCs hs ht hu h1 g1 h2 h3 g2 g3, SH_put h (Nat.xor_lt_two_pow h1 g1)⟩
theorem divT {s t u v : Nat} (hs : s < 8) (ht : t < 8) (hu : u < 8) (hv : v < 8) (hne : s ≠ t) (h : SH a10 a11 P) (h0 : P v ≠ 0) :
    Sat (q_L_divide (nI s) (nI t) (nI u) (nI v) a10 a11 x y x' y' x'' y'') fun c => c.1 = dgI (dv (P v) (P v).log2 (96 - (P v).log2) (P u) 0).1 ∧ SH c.2.2.1 c.2.2.2.1 (upN (upN P s (dv (P v) (P v).log2 (96 - (P v).log2) (P u) 0).2) t (dv (P v) (P v).log2 (96 - (P v).log2) (P u) 0).1) := by
  obtain ⟨h1, h2, h3⟩ := h u hu
  obtain ⟨g1, g2, g3⟩ := h v hv
  have hlv := leaveC h1 g1 h0
  rcases dg_cases g1 with ⟨e, -⟩ | ⟨-, h95, e, hl, hg⟩
  · exact absurd e h0
  obtain ⟨k1, k2⟩ := dv_lt hl (96 - (P v).log2) (P u) 0 (by omega) h1 (Nat.two_pow_pos 96)
  generalize (dv (P v) (P v).log2 (96 - (P v).log2) (P u) 0).1 = R at k1 hlv ⊢
  generalize (dv (P v) (P v).log2 (96 - (P v).log2) (P u) 0).2 = T at k2 hlv ⊢
  have e1 : q_X11_divide (nI s) (nI t) (nI u) (nI v) a10 a11 x y x' y' x'' y'' = some (.inr (dgI R), (vp_updL (vp_updL a10 s (pL T)) t (pL R), vp_updL (vp_updL a11 s (pH T)) t (pH R), pL R, pH R, pL (P v), pH (P v), pL T, pH T)) := by
    unfold q_X11_divide
    rw [rsT hs, rsT ht, takeT hu hv, h2, h3, g2, g3]
    simp only [xbnd, if_pos (ne_of_nI hne (by omega) (by omega)), isZ g1, if_neg h0, if_true, hlv, Option.bind_some, putS hs k2, putS ht k1]
  exact ⟨_, by unfold q_L_divide; rw [e1, xbnd_r], rfl, SH_put (SH_put h k2) k1⟩
theorem divS {s u v : Nat} (hs : s < 8) (hu : u < 8) (hv : v < 8) (h : SH a10 a11 P) :
    Sat (q_L_divide (nI s) (nI s) (nI u) (nI v) a10 a11 x y x' y' x'' y'') fun c => c.1 = -12 ∧ c.2.2.1 = a10 ∧ c.2.2.2.1 = a11 := by
  have e1 : q_X11_divide (nI s) (nI s) (nI u) (nI v) a10 a11 x y x' y' x'' y'' = some (.inl 0, (a10, a11, a10 u, a11 u, a10 v, a11 v, x'', y'')) := by
    unfold q_X11_divide
    rw [rsT hs, takeT hu hv]
    exact if_neg (fun h => h rfl)
  exact ⟨_, by unfold q_L_divide; rw [e1, xbnd_l, if_neg (show ¬ (0 : Nat) = 2 by decide), if_pos rfl], rfl, rfl, rfl⟩
theorem div0 {s t u v : Nat} (hs : s < 8) (ht : t < 8) (hu : u < 8) (hv : v < 8) (hne : s ≠ t) (h : SH a10 a11 P) (h0 : P v = 0) :
    Sat (q_L_divide (nI s) (nI t) (nI u) (nI v) a10 a11 x y x' y' x'' y'') fun c => c.1 = -13 ∧ c.2.2.1 = a10 ∧ c.2.2.2.1 = a11 := by
  obtain ⟨g1, g2, g3⟩ := h v hv
  have e1 : q_X11_divide (nI s) (nI t) (nI u) (nI v) a10 a11 x y x' y' x'' y'' = some (.inl 4, (a10, a11, a10 u, a11 u, pL (P v), pH (P v), x'', y'')) := by
    unfold q_X11_divide
    rw [rsT hs, rsT ht, takeT hu hv, g2, g3]
    simp only [xbnd, if_pos (ne_of_nI hne (by omega) (by omega)), isZ g1, if_pos h0, if_true, ite1e]
  exact ⟨_, by unfold q_L_divide; rw [e1, xbnd_l, if_neg (show ¬ (4 : Nat) = 2 by decide), if_neg (show ¬ (4 : Nat) = 0 by decide), if_pos rfl], rfl, rfl, rfl⟩
theorem div8 {s u v : Nat} (hs : s < 8) : 
    Sat (q_L_divide (nI s) (nI 8) (nI u) (nI v) a10 a11 x y x' y' x'' y'') fun c => c.1 = -11 ∧ c.2.2.1 = a10 ∧ c.2.2.2.1 = a11 := by
  have e1 : q_X11_divide (nI s) (nI 8) (nI u) (nI v) a10 a11 x y x' y' x'' y'' = some (.inl 2, (a10, a11, x, y, x', y', x'', y'')) := by
    unfold q_X11_divide
    rw [rsT hs, xbnd_r, rsF (p := nI 8) (Or.inr (by decide)), xbnd_l]
  exact ⟨_, by unfold q_L_divide; rw [e1, xbnd_l, if_pos rfl], rfl, rfl, rfl⟩
theorem seenT {s : Nat} (hs : s < 8) (h1 : 1 ≤ w) (h : w ≤ 32) (hp : p < 2 ^ w) (hS : SH a10 a11 P) (h0 : P s ≠ 0) :
    Sat (q_L_seen (nI s) a10 a11 x y (nI w) (nI p) x' y' x'' y'') fun c => c.1 = (if (dv (2 ^ w + p) w (96 - w) (P s) 0).1 = 0 then 0 else 1) := by
  obtain ⟨n1, n2, n3⟩ := numK h hp
  obtain ⟨hP, b1, b2⟩ := hS s hs
  have ez : 2 ^ w + p ≠ 0 := by have := Nat.two_pow_pos w; omega
  have hK96 : 2 ^ w + p < 2 ^ 96 := by omega
  have el : (2 ^ w + p).log2 = w := (Nat.log2_eq_iff ez).mpr ⟨Nat.le_add_right _ _, by rw [Nat.pow_succ]; omega⟩
  have hlv := leaveC hP hK96 ez
  rw [el] at hlv
  have hR := (dv_lt (Q := 2 ^ w + p) (b := w) (by rw [Nat.pow_succ]; omega) (96 - w) (P s) 0 (by omega) hP (Nat.two_pow_pos 96)).1
  generalize (dv (2 ^ w + p) w (96 - w) (P s) 0).1 = R at hlv hR ⊢
  generalize (dv (2 ^ w + p) w (96 - w) (P s) 0).2 = T at hlv
  have e1 : q_X11_isSeen (nI s) a10 a11 x y (nI w) (nI p) x' y' x'' y'' = some (.inr (if R = 0 then 0 else 1), (pL R, pH R, pL (2 ^ w + p), pH (2 ^ w + p), pL T, pH T)) := by
    unfold q_X11_isSeen t_X4_become
    rw [rsT hs, n1, n2]
    simp only [xbnd, takeS hs, Option.bind_some, b1, b2, isZ hP, if_neg h0, if_true, hlv, isZ hR]
    by_cases c : R = 0
    · rw [if_pos c, ite10, if_pos c]
    · rw [if_neg c, ite00, if_neg c]
  refine ⟨_, by unfold q_L_seen; rw [e1, xbnd_r], ?_⟩
  show (if (if R = 0 then (0 : Int32) else 1) = 0 then (0 : Int32) else 1) = _
  by_cases c : R = 0
  · rw [if_pos c, if_pos rfl]
  · rw [if_neg c, if_neg (by decide)]
theorem seen0 {s : Nat} (hs : s < 8) (h1 : 1 ≤ w) (h : w ≤ 32) (hp : p < 2 ^ w) (hS : SH a10 a11 P) (h0 : P s ≠ 0) (hd : pdv (2 ^ w + p) (P s)) :
    Sat (q_L_seen (nI s) a10 a11 x y (nI w) (nI p) x' y' x'' y'') fun c => c.1 = 0 := by
  obtain ⟨c, e, e'⟩ := seenT (x := x) (y := y) (x' := x') (y' := y') (x'' := x'') (y'' := y'') hs h1 h hp hS h0
  rw [if_pos ((rest0 (Nat.le_add_right _ _) (by rw [Nat.pow_succ]; omega) (by omega) (hS s hs).1).mpr hd)] at e'
  exact ⟨c, e, e'⟩
theorem seen1 {s : Nat} (hs : s < 8) (h1 : 1 ≤ w) (h : w ≤ 32) (hp : p < 2 ^ w) (hS : SH a10 a11 P) (h0 : P s ≠ 0) (hd : ¬ pdv (2 ^ w + p) (P s)) :
    Sat (q_L_seen (nI s) a10 a11 x y (nI w) (nI p) x' y' x'' y'') fun c => c.1 = 1 := by
  obtain ⟨c, e, e'⟩ := seenT (x := x) (y := y) (x' := x') (y' := y') (x'' := x'') (y'' := y'') hs h1 h hp hS h0
  rw [if_neg (fun z => hd ((rest0 (Nat.le_add_right _ _) (by rw [Nat.pow_succ]; omega) (by omega) (hS s hs).1).mp z))] at e'
  exact ⟨c, e, e'⟩
theorem seenZ {s : Nat} {c0 c1 : Int32} (hs : s < 8) (hS : SH a10 a11 P) (h0 : P s = 0) :
    Sat (q_L_seen (nI s) a10 a11 x y c0 c1 x' y' x'' y'') fun c => c.1 = -2 := by
  obtain ⟨hP, b1, b2⟩ := hS s hs
  have e1 : q_X11_isSeen (nI s) a10 a11 x y c0 c1 x' y' x'' y'' = some (.inl 4, (pL (P s), pH (P s), x', y', x'', y'')) := by
    unfold q_X11_isSeen
    rw [rsT hs]
    simp only [xbnd, takeS hs, Option.bind_some, b1, b2, isZ hP, if_pos h0, if_true, ite1e]
  exact ⟨_, by unfold q_L_seen; rw [e1, xbnd_l, if_pos rfl], rfl⟩
end SHELF

/-! The rows of small numbers (class Row). -/
def rAt (m : Nat) (f : Nat → Int32) (p : Int32) : Int32 := if xin p m = true then f p.toNatClampNeg else 0
def rPut (m : Nat) (f : Nat → Int32) (p v : Int32) : Nat → Int32 := if xin p m = true then upd f p.toNatClampNeg v else f
theorem xin_of {p : Int32} {m : Nat} (hm : m < 2147483648) (h1 : ¬ p < 0) (h2 : ¬ nI m ≤ p) : xin p m = true := by
  unfold xin
  rw [Int32.lt_iff_toInt_lt, Int32.toInt_zero] at h1
  rw [Int32.le_iff_toInt_le, nI_toInt hm] at h2
  have e : p.toNatClampNeg = p.toInt.toNat := rfl
  have e1 : decide (p < 0) = false := by
    apply decide_eq_false
    rw [Int32.lt_iff_toInt_lt, Int32.toInt_zero]
    exact h1
  have e2 : Nat.ble m p.toNatClampNeg = false := by
    cases hb : Nat.ble m p.toNatClampNeg with
    | false => rfl
    | true =>
      have := Nat.le_of_ble_eq_true hb
      omega
  rw [e1, e2]; rfl
theorem xin_lt {p : Int32} {m : Nat} (h1 : p < 0) : xin p m = false := by
  unfold xin
  rw [decide_eq_true h1]; rfl
theorem xin_ge {p : Int32} {m : Nat} (hm : m < 2147483648) (h2 : nI m ≤ p) : xin p m = false := by
  unfold xin
  rw [Int32.le_iff_toInt_le, nI_toInt hm] at h2
  have e : p.toNatClampNeg = p.toInt.toNat := rfl
  have e2 : Nat.ble m p.toNatClampNeg = true := Nat.ble_eq_true_of_le (by omega)
  rw [e2, Bool.or_true]; rfl
theorem xin_nI {k m : Nat} (h : k < m) (hm : m < 2147483648) : xin (nI k) m = true := xin_of hm (by rw [Int32.lt_iff_toInt_lt, Int32.toInt_zero, nI_toInt (by omega)]; omega) (by rw [Int32.le_iff_toInt_le, nI_toInt hm, nI_toInt (by omega)]; omega)
theorem rAt_nI {m k : Nat} {f : Nat → Int32} (h : k < m) (hm : m < 2147483648) : rAt m f (nI k) = f k := by
  unfold rAt
  rw [if_pos (xin_nI h hm), nI_clamp (by omega)]
theorem rPut_nI {m k : Nat} {f : Nat → Int32} {v : Int32} (h : k < m) (hm : m < 2147483648) : rPut m f (nI k) v = upd f k v := by
  unfold rPut
  rw [if_pos (xin_nI h hm), nI_clamp (by omega)]
theorem c_size {S : Nat × (Nat → Int32)} {d : Nat} {H : List xE} {z : Bool × Nat × Nat} {h : Nat} {q : Nat} {sz : Int32} (hh : H[h]? = some (.inr (4, [.ref q, .int sz]))) : Cm S d 55 [.ref h] (H, z) (.inr (some (.int sz)), (H, z)) := by
  show Ev S d 55 (0, [some (.ref h)], []) (H, z) _
  refine ev_run 1 (F' := (1, [some (.ref h)], [.ref h])) rfl ?_
  refine ev_getf rfl hh rfl ?_
  exact ev_ret rfl rfl rfl (rfl)
theorem c_at {S : Nat × (Nat → Int32)} {d : Nat} {H : List xE} {z : Bool × Nat × Nat} {h q m : Nat} {f : Nat → Int32} {sz : Int32} (hh : H[h]? = some (.inr (4, [.ref q, .int sz]))) (hq : H[q]? = some (.inl (0, m, .inl f))) (hm : m < 2147483648) {p : Int32} : Cm S d 57 [.ref h, .int p] (H, z) (.inr (some (.int (rAt m f p))), (H, z)) := by
  show Ev S d 57 (0, [some (.ref h), some (.int p)], []) (H, z) _
  refine ev_run 1 (F' := (1, [some (.ref h), some (.int p)], [.int p])) rfl ?_
  refine ev_if rfl (fun (c1 : p < 0) => ?_) (fun (c1 : ¬ (p < 0)) => ?_)
  · skip
    refine ev_run 1 (F' := (23, [some (.ref h), some (.int p)], [.int 0])) rfl ?_
    exact ev_ret rfl rfl rfl (by first | rfl | (unfold rAt; first | rw [if_pos (xin_of hm c1 c10)] | rw [if_neg (by rw [xin_lt c1]; decide)] | rw [if_neg (by rw [xin_ge hm c10]; decide)]))
  · skip
    refine ev_run 2 (F' := (6, [some (.ref h), some (.int p)], [.ref h, .int p])) rfl ?_
    refine ev_getf rfl hh rfl ?_
    refine ev_alen rfl hq rfl ?_
    refine ev_icmp rfl (fun (c10 : nI m ≤ p) => ?_) (fun (c10 : ¬ (nI m ≤ p)) => ?_)
    · skip
      refine ev_run 1 (F' := (23, [some (.ref h), some (.int p)], [.int 0])) rfl ?_
      exact ev_ret rfl rfl rfl (by first | rfl | (unfold rAt; first | rw [if_pos (xin_of hm c1 c10)] | rw [if_neg (by rw [xin_lt c1]; decide)] | rw [if_neg (by rw [xin_ge hm c10]; decide)]))
    · skip
      refine ev_run 1 (F' := (14, [some (.ref h), some (.int p)], [.ref h])) rfl ?_
      refine ev_getf rfl hh rfl ?_
      refine ev_run 1 (F' := (18, [some (.ref h), some (.int p)], [.int p, .ref q])) rfl ?_
      refine ev_iald rfl hq (show xin p m = true from xin_of hm c1 c10) ?_
      refine ev_run 1 (F' := (23, [some (.ref h), some (.int p)], [.int (f p.toNatClampNeg)])) rfl ?_
      exact ev_ret rfl rfl rfl (by first | rfl | (unfold rAt; first | rw [if_pos (xin_of hm c1 c10)] | rw [if_neg (by rw [xin_lt c1]; decide)] | rw [if_neg (by rw [xin_ge hm c10]; decide)]))
theorem c_change {S : Nat × (Nat → Int32)} {d : Nat} {H : List xE} {z : Bool × Nat × Nat} {h q m : Nat} {f : Nat → Int32} {sz : Int32} (hh : H[h]? = some (.inr (4, [.ref q, .int sz]))) (hq : H[q]? = some (.inl (0, m, .inl f))) (hm : m < 2147483648) {p v : Int32} : Cm S d 58 [.ref h, .int p, .int v] (H, z) (.inr none, (H.set q (.inl (0, m, .inl (rPut m f p v))), z)) := by
  show Ev S d 58 (0, [some (.ref h), some (.int p), some (.int v)], []) (H, z) _
  refine ev_run 1 (F' := (1, [some (.ref h), some (.int p), some (.int v)], [.int p])) rfl ?_
  refine ev_if rfl (fun (c1 : p < 0) => ?_) (fun (c1 : ¬ (p < 0)) => ?_)
  · skip
    exact ev_ret rfl rfl rfl (by unfold rPut; first | rw [if_pos (xin_of hm c1 c10)] | (rw [if_neg (by rw [xin_lt c1]; decide), hs_self hq]) | (rw [if_neg (by rw [xin_ge hm c10]; decide), hs_self hq]))
  · skip
    refine ev_run 2 (F' := (6, [some (.ref h), some (.int p), some (.int v)], [.ref h, .int p])) rfl ?_
    refine ev_getf rfl hh rfl ?_
    refine ev_alen rfl hq rfl ?_
    refine ev_icmp rfl (fun (c10 : nI m ≤ p) => ?_) (fun (c10 : ¬ (nI m ≤ p)) => ?_)
    · skip
      exact ev_ret rfl rfl rfl (by unfold rPut; first | rw [if_pos (xin_of hm c1 c10)] | (rw [if_neg (by rw [xin_lt c1]; decide), hs_self hq]) | (rw [if_neg (by rw [xin_ge hm c10]; decide), hs_self hq]))
    · skip
      refine ev_run 1 (F' := (14, [some (.ref h), some (.int p), some (.int v)], [.ref h])) rfl ?_
      refine ev_getf rfl hh rfl ?_
      refine ev_run 2 (F' := (19, [some (.ref h), some (.int p), some (.int v)], [.int v, .int p, .ref q])) rfl ?_
      refine ev_iast rfl hq (show xin p m = true from xin_of hm c1 c10) ?_
      exact ev_ret rfl rfl rfl (by unfold rPut; first | rw [if_pos (xin_of hm c1 c10)] | (rw [if_neg (by rw [xin_lt c1]; decide), hs_self hq]) | (rw [if_neg (by rw [xin_ge hm c10]; decide), hs_self hq]))
theorem c_has {S : Nat × (Nat → Int32)} {d : Nat} {H : List xE} {z : Bool × Nat × Nat} {h q : Nat} {sz : Int32} (hh : H[h]? = some (.inr (4, [.ref q, .int sz]))) {p : Int32} : Cm S d 56 [.ref h, .int p] (H, z) (.inr (some (.int (if ¬ p < 0 ∧ ¬ sz ≤ p then 1 else 0))), (H, z)) := by
  show Ev S d 56 (0, [some (.ref h), some (.int p)], []) (H, z) _
  refine ev_run 1 (F' := (1, [some (.ref h), some (.int p)], [.int p])) rfl ?_
  refine ev_if rfl (fun (c1 : p < 0) => ?_) (fun (c1 : ¬ (p < 0)) => ?_)
  · skip
    refine ev_run 1 (F' := (17, [some (.ref h), some (.int p)], [.int 0])) rfl ?_
    exact ev_ret rfl rfl rfl (by simp_all)
  · skip
    refine ev_run 2 (F' := (6, [some (.ref h), some (.int p)], [.ref h, .int p])) rfl ?_
    refine ev_getf rfl hh rfl ?_
    refine ev_icmp rfl (fun (c9 : sz ≤ p) => ?_) (fun (c9 : ¬ (sz ≤ p)) => ?_)
    · skip
      refine ev_run 1 (F' := (17, [some (.ref h), some (.int p)], [.int 0])) rfl ?_
      exact ev_ret rfl rfl rfl (by simp_all)
    · skip
      refine ev_run 2 (F' := (17, [some (.ref h), some (.int p)], [.int 1])) rfl ?_
      exact ev_ret rfl rfl rfl (by simp_all)
theorem c_empty {S : Nat × (Nat → Int32)} {d : Nat} {H : List xE} {z : Bool × Nat × Nat} {h q : Nat} {sz : Int32} (hh : H[h]? = some (.inr (4, [.ref q, .int sz]))) : Cm S d 62 [.ref h] (H, z) (.inr none, (H.set h (.inr (4, [.ref q, .int 0])), z)) := by
  show Ev S d 62 (0, [some (.ref h)], []) (H, z) _
  refine ev_run 2 (F' := (2, [some (.ref h)], [.int 0, .ref h])) rfl ?_
  refine ev_putf rfl hh rfl ?_
  show Ev S _ _ (5, [some (.ref h)], []) ((H.set h (.inr (4, [.ref q, .int 0]))), z) _
  exact ev_ret rfl rfl rfl (rfl)
/-- the row with v put in at p, of n -/
def rIns (f : Nat → Int32) (n p : Nat) (v : Int32) : Nat → Int32 := fun k => if p < k ∧ k ≤ n then f (k - 1) else if k = p then v else f k
def rSh (f : Nat → Int32) (n j : Nat) : Nat → Int32 := fun k => if n - j < k ∧ k ≤ n then f (k - 1) else f k
theorem nI_nle2 {a b : Nat} (h : a < b) (hb : b < 2147483648) : ¬ nI b ≤ nI a := nI_ge h hb
theorem nI_lt2 {a b : Nat} (h : a < b) (hb : b < 2147483648) : ¬ nI b ≤ nI a := nI_ge h hb
theorem nI_m1 (n : Nat) (h : 0 < n) : nI n + (-1) = nI (n - 1) := by
  obtain ⟨k, rfl⟩ : ∃ k, n = k + 1 := ⟨n - 1, by omega⟩
  exact pk_m1 k
theorem nI_down {n j : Nat} (h : j < n) : nI (n - j) + (-1) = nI (n - (j + 1)) := by
  rw [nI_m1 _ (by omega), show n - j - 1 = n - (j + 1) by omega]
theorem nI_sub1 {n j : Nat} (h : j < n) : nI (n - j) - 1 = nI (n - j - 1) := by
  have := pk_sub (a := n - j) (b := 1) (by omega)
  exact this
theorem hs_set2 {H : List xE} {q : Nat} {a b : xE} : (H.set q a).set q b = H.set q b := List.set_set ..
theorem rSh_0 {f : Nat → Int32} {n : Nat} : rSh f n 0 = f := by
  funext k
  unfold rSh
  rw [if_neg (by omega)]
theorem rSh_step {f : Nat → Int32} {n j : Nat} (h : j < n) : upd (rSh f n j) (n - j) (rSh f n j (n - j - 1)) = rSh f n (j + 1) := by
  funext k
  unfold upd rSh
  by_cases hk : k = n - j
  · subst hk
    rw [if_pos rfl, if_neg (by omega), if_pos (by omega)]
  · rw [if_neg hk]
    by_cases hc : n - j < k ∧ k ≤ n
    · rw [if_pos hc, if_pos (by omega)]
    · rw [if_neg hc, if_neg (by omega)]
theorem rIns_of {f : Nat → Int32} {n p : Nat} {v : Int32} (h : p ≤ n) : upd (rSh f n (n - p)) p v = rIns f n p v := by
  funext k
  unfold upd rSh rIns
  by_cases hk : k = p
  · subst hk
    rw [if_pos rfl, if_neg (by omega), if_pos rfl]
  · rw [if_neg hk]
    by_cases hc : p < k ∧ k ≤ n
    · rw [if_pos (by omega), if_pos hc]
    · rw [if_neg (by omega), if_neg hc, if_neg hk]
theorem c_openAt {S : Nat × (Nat → Int32)} {d : Nat} {H : List xE} {z : Bool × Nat × Nat} {h q m n p : Nat} {f : Nat → Int32} (hh : H[h]? = some (.inr (4, [.ref q, .int (nI n)]))) (hq : H[q]? = some (.inl (0, m, .inl f))) (hm : m < 2147483648) (hn : n < m) (hp : p ≤ n) (hne : h ≠ q) {v : Int32} : Cm S (d + 1) 60 [.ref h, .int (nI p), .int v] (H, z) (.inr none, ((H.set q (.inl (0, m, .inl (rIns f n p v)))).set h (.inr (4, [.ref q, .int (nI (n + 1))])), z)) := by
  show Ev S (d + 1) 60 (0, [some (.ref h), some (.int (nI p)), some (.int v), none], []) (H, z) _
  refine ev_run 1 (F' := (1, [some (.ref h), some (.int (nI p)), some (.int v), none], [.ref h])) rfl ?_
  refine ev_getf rfl hh rfl ?_
  refine ev_run 1 (F' := (5, [some (.ref h), some (.int (nI p)), some (.int v), none], [.ref h, .int (nI n)])) rfl ?_
  refine ev_getf rfl hh rfl ?_
  refine ev_alen rfl hq rfl ?_
  refine ev_icmp_F rfl (show ¬ (nI m ≤ (nI n)) from nI_nle2 hn hm) ?_
  refine ev_run 1 (F' := (13, [some (.ref h), some (.int (nI p)), some (.int v), none], [.int (nI p)])) rfl ?_
  refine ev_if_F rfl (show ¬ ((nI p) < 0) from nI_pos (by omega)) ?_
  refine ev_run 2 (F' := (18, [some (.ref h), some (.int (nI p)), some (.int v), none], [.ref h, .int (nI p)])) rfl ?_
  refine ev_getf rfl hh rfl ?_
  refine ev_icmp_T rfl (show (nI p) ≤ (nI n) from (nI_leI (by omega) (by omega)).mpr hp) ?_
  refine ev_run 1 (F' := (26, [some (.ref h), some (.int (nI p)), some (.int v), none], [.ref h])) rfl ?_
  refine ev_getf rfl hh rfl ?_
  refine ev_run 1 (F' := (30, [some (.ref h), some (.int (nI p)), some (.int v), some (.int (nI n))], [])) rfl ?_
  refine ev_cast (F1 := (fun j => ((30, [some (.ref h), some (.int (nI p)), some (.int v), some (.int (nI (n - j)))], []) : xF)) 0) (M1 := (fun j => (((H.set q (.inl (0, m, .inl (rSh f n j)))), z) : xM)) 0) (by show ((30, [some (.ref h), some (.int (nI p)), some (.int v), some (.int (nI n))], []) : xF) = (30, [some (.ref h), some (.int (nI p)), some (.int v), some (.int (nI (n - 0)))], []); rfl) (by show ((H, z) : xM) = ((H.set q (.inl (0, m, .inl (rSh f n 0)))), z); rw [rSh_0, hs_self hq]) (ev_iter (fr := fun j => ((30, [some (.ref h), some (.int (nI p)), some (.int v), some (.int (nI (n - j)))], []) : xF)) (Mm := fun j => (((H.set q (.inl (0, m, .inl (rSh f n j)))), z) : xM)) ((n - p)) (fun j hj ih => ?_) ?_)
  · show Ev S _ _ (30, [some (.ref h), some (.int (nI p)), some (.int v), some (.int (nI (n - j)))], []) ((H.set q (.inl (0, m, .inl (rSh f n j)))), z) _
    refine ev_run 2 (F' := (32, [some (.ref h), some (.int (nI p)), some (.int v), some (.int (nI (n - j)))], [.int (nI p), .int (nI (n - j))])) rfl ?_
    refine ev_icmp_F rfl (show ¬ ((nI (n - j)) ≤ (nI p)) from nI_lt2 (show p < n - j by omega) (by omega)) ?_
    refine ev_run 6 (F' := (41, [some (.ref h), some (.int (nI p)), some (.int v), some (.int (nI (n - j)))], [.int ((nI (n - j)) - 1), .ref h, .int (nI (n - j)), .ref h])) rfl ?_
    refine ev_callV (x := (.invokevirtual 27, 3, 57, 4, 508, .null)) (as := [.int ((nI (n - j)) - 1)]) (rest := [.int (nI (n - j)), .ref h]) rfl rfl (hs_ne (Ne.symm hne) hh) (c_at (hs_ne (Ne.symm hne) hh) (hs_eq hq) (by first | assumption | decide)) rfl ?_
    refine ev_callV (x := (.invokevirtual 31, 3, 58, 4, 509, .null)) (as := [.int (nI (n - j)), .int (rAt m (rSh f n j) ((nI (n - j)) - 1))]) (rest := []) rfl rfl (hs_ne (Ne.symm hne) hh) (c_change (hs_ne (Ne.symm hne) hh) (hs_eq hq) (by first | assumption | decide)) rfl ?_
    refine ev_run 2 (F' := (30, [some (.ref h), some (.int (nI p)), some (.int v), some (.int ((nI (n - j)) + (-1)))], [])) rfl ?_
    refine ev_cast (F1 := (30, [some (.ref h), some (.int (nI p)), some (.int v), some (.int (nI (n - (j + 1))))], [])) (M1 := ((H.set q (.inl (0, m, .inl (rSh f n (j + 1))))), z)) (by rw [nI_down (show j < n by omega)]) (by rw [hs_set2, nI_sub1 (show j < n by omega), rAt_nI (by omega) hm, rPut_nI (by omega) hm, rSh_step (by omega)]) ih
  · show Ev S _ _ (30, [some (.ref h), some (.int (nI p)), some (.int v), some (.int (nI (n - (n - p))))], []) ((H.set q (.inl (0, m, .inl (rSh f n (n - p))))), z) _
    refine ev_run 2 (F' := (32, [some (.ref h), some (.int (nI p)), some (.int v), some (.int (nI (n - (n - p))))], [.int (nI p), .int (nI (n - (n - p)))])) rfl ?_
    refine ev_icmp_T rfl (show (nI (n - (n - p))) ≤ (nI p) from (nI_leI (by omega) (by omega)).mpr (by omega)) ?_
    refine ev_run 3 (F' := (56, [some (.ref h), some (.int (nI p)), some (.int v), some (.int (nI (n - (n - p))))], [.int v, .int (nI p), .ref h])) rfl ?_
    refine ev_callV (x := (.invokevirtual 31, 3, 58, 4, 509, .null)) (as := [.int (nI p), .int v]) (rest := []) rfl rfl (hs_ne (Ne.symm hne) hh) (c_change (hs_ne (Ne.symm hne) hh) (hs_eq hq) (by first | assumption | decide)) rfl ?_
    refine ev_run 2 (F' := (61, [some (.ref h), some (.int (nI p)), some (.int v), some (.int (nI (n - (n - p))))], [.ref h, .ref h])) rfl ?_
    refine ev_getf rfl (hs_ne (Ne.symm hne) (hs_ne (Ne.symm hne) hh)) rfl ?_
    refine ev_run 2 (F' := (66, [some (.ref h), some (.int (nI p)), some (.int v), some (.int (nI (n - (n - p))))], [.int ((nI n) + 1), .ref h])) rfl ?_
    refine ev_putf rfl (hs_ne (Ne.symm hne) (hs_ne (Ne.symm hne) hh)) rfl ?_
    show Ev S _ _ (69, [some (.ref h), some (.int (nI p)), some (.int v), some (.int (nI (n - (n - p))))], []) ((((H.set q (.inl (0, m, .inl (rSh f n (n - p))))).set q (.inl (0, m, .inl (rPut m (rSh f n (n - p)) (nI p) v)))).set h (.inr (4, [.ref q, .int ((nI n) + 1)]))), z) _
    exact ev_ret rfl rfl rfl (by rw [hs_set2, rPut_nI (by omega) hm, rIns_of hp, nI_1])

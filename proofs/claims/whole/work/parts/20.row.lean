/-! The rows of small numbers (class Row). -/
def rAt (m : Nat) (f : Nat → Int32) (p : Int32) : Int32 := if xin p m = true then f p.toNatClampNeg else 0
def rPut (m : Nat) (f : Nat → Int32) (p v : Int32) : Nat → Int32 := if xin p m = true then upd f p.toNatClampNeg v else f
theorem xin_of {p : Int32} {m : Nat} (hm : m < 2147483648) (h1 : ¬ p < 0) (h2 : ¬ nI m ≤ p) : xin p m = true := by
  unfold xin
  rw [Int32.lt_iff_toInt_lt, Int32.toInt_zero] at h1
  rw [Int32.le_iff_toInt_le, nI_toInt hm] at h2
  have e : p.toNatClampNeg = p.toInt.toNat := rfl
  have e1 : decide (p < 0) = false := by
    apply decide_eq_false
    rw [Int32.lt_iff_toInt_lt, Int32.toInt_zero]
    exact h1
  have e2 : Nat.ble m p.toNatClampNeg = false := by
    cases hb : Nat.ble m p.toNatClampNeg with
    | false => rfl
    | true =>
      have := Nat.le_of_ble_eq_true hb
      omega
  rw [e1, e2]; rfl
theorem xin_lt {p : Int32} {m : Nat} (h1 : p < 0) : xin p m = false := by
  unfold xin
  rw [decide_eq_true h1]; rfl
theorem xin_ge {p : Int32} {m : Nat} (hm : m < 2147483648) (h2 : nI m ≤ p) : xin p m = false := by
  unfold xin
  rw [Int32.le_iff_toInt_le, nI_toInt hm] at h2
  have e : p.toNatClampNeg = p.toInt.toNat := rfl
  have e2 : Nat.ble m p.toNatClampNeg = true := Nat.ble_eq_true_of_le (by omega)
  rw [e2, Bool.or_true]; rfl
theorem xin_nI {k m : Nat} (h : k < m) (hm : m < 2147483648) : xin (nI k) m = true := xin_of hm (by rw [Int32.lt_iff_toInt_lt, Int32.toInt_zero, nI_toInt (by omega)]; omega) (by rw [Int32.le_iff_toInt_le, nI_toInt hm, nI_toInt (by omega)]; omega)
theorem rAt_nI {m k : Nat} {f : Nat → Int32} (h : k < m) (hm : m < 2147483648) : rAt m f (nI k) = f k := by
  unfold rAt
  rw [if_pos (xin_nI h hm), nI_clamp (by omega)]
theorem rPut_nI {m k : Nat} {f : Nat → Int32} {v : Int32} (h : k < m) (hm : m < 2147483648) : rPut m f (nI k) v = upd f k v := by
  unfold rPut
  rw [if_pos (xin_nI h hm), nI_clamp (by omega)]
theorem c_size {S : Nat × (Nat → Int32)} {d : Nat} {H : List xE} {z : Bool × Nat × Nat} {h : Nat} {q : Nat} {sz : Int32} (hh : H[h]? = some (.inr (4, [.ref q, .int sz]))) : Cm S d 55 [.ref h] (H, z) (.inr (some (.int sz)), (H, z)) := by
  show Ev S d 55 (0, [some (.ref h)], []) (H, z) _
  refine ev_run 1 (F' := (1, [some (.ref h)], [.ref h])) rfl ?_
  refine ev_getf rfl hh rfl ?_
  exact ev_ret rfl rfl rfl (rfl)
theorem c_at {S : Nat × (Nat → Int32)} {d : Nat} {H : List xE} {z : Bool × Nat × Nat} {h q m : Nat} {f : Nat → Int32} {sz : Int32} (hh : H[h]? = some (.inr (4, [.ref q, .int sz]))) (hq : H[q]? = some (.inl (0, m, .inl f))) (hm : m < 2147483648) {p : Int32} : Cm S d 57 [.ref h, .int p] (H, z) (.inr (some (.int (rAt m f p))), (H, z)) := by
  show Ev S d 57 (0, [some (.ref h), some (.int p)], []) (H, z) _
  refine ev_run 1 (F' := (1, [some (.ref h), some (.int p)], [.int p])) rfl ?_
  refine ev_if rfl (fun (c1 : p < 0) => ?_) (fun (c1 : ¬ (p < 0)) => ?_)
  · skip
    refine ev_run 1 (F' := (23, [some (.ref h), some (.int p)], [.int 0])) rfl ?_
    exact ev_ret rfl rfl rfl (by first | rfl | (unfold rAt; first | rw [if_pos (xin_of hm c1 c10)] | rw [if_neg (by rw [xin_lt c1]; decide)] | rw [if_neg (by rw [xin_ge hm c10]; decide)]))
  · skip
    refine ev_run 2 (F' := (6, [some (.ref h), some (.int p)], [.ref h, .int p])) rfl ?_
    refine ev_getf rfl hh rfl ?_
    refine ev_alen rfl hq rfl ?_
    refine ev_icmp rfl (fun (c10 : nI m ≤ p) => ?_) (fun (c10 : ¬ (nI m ≤ p)) => ?_)
    · skip
      refine ev_run 1 (F' := (23, [some (.ref h), some (.int p)], [.int 0])) rfl ?_
      exact ev_ret rfl rfl rfl (by first | rfl | (unfold rAt; first | rw [if_pos (xin_of hm c1 c10)] | rw [if_neg (by rw [xin_lt c1]; decide)] | rw [if_neg (by rw [xin_ge hm c10]; decide)]))
    · skip
      refine ev_run 1 (F' := (14, [some (.ref h), some (.int p)], [.ref h])) rfl ?_
      refine ev_getf rfl hh rfl ?_
      refine ev_run 1 (F' := (18, [some (.ref h), some (.int p)], [.int p, .ref q])) rfl ?_
      refine ev_iald rfl hq (show xin p m = true from xin_of hm c1 c10) ?_
      refine ev_run 1 (F' := (23, [some (.ref h), some (.int p)], [.int (f p.toNatClampNeg)])) rfl ?_
      exact ev_ret rfl rfl rfl (by first | rfl | (unfold rAt; first | rw [if_pos (xin_of hm c1 c10)] | rw [if_neg (by rw [xin_lt c1]; decide)] | rw [if_neg (by rw [xin_ge hm c10]; decide)]))
theorem c_change {S : Nat × (Nat → Int32)} {d : Nat} {H : List xE} {z : Bool × Nat × Nat} {h q m : Nat} {f : Nat → Int32} {sz : Int32} (hh : H[h]? = some (.inr (4, [.ref q, .int sz]))) (hq : H[q]? = some (.inl (0, m, .inl f))) (hm : m < 2147483648) {p v : Int32} : Cm S d 58 [.ref h, .int p, .int v] (H, z) (.inr none, (H.set q (.inl (0, m, .inl (rPut m f p v))), z)) := by
  show Ev S d 58 (0, [some (.ref h), some (.int p), some (.int v)], []) (H, z) _
  refine ev_run 1 (F' := (1, [some (.ref h), some (.int p), some (.int v)], [.int p])) rfl ?_
  refine ev_if rfl (fun (c1 : p < 0) => ?_) (fun (c1 : ¬ (p < 0)) => ?_)
  · skip
    exact ev_ret rfl rfl rfl (by unfold rPut; first | rw [if_pos (xin_of hm c1 c10)] | (rw [if_neg (by rw [xin_lt c1]; decide), hs_self hq]) | (rw [if_neg (by rw [xin_ge hm c10]; decide), hs_self hq]))
  · skip
    refine ev_run 2 (F' := (6, [some (.ref h), some (.int p), some (.int v)], [.ref h, .int p])) rfl ?_
    refine ev_getf rfl hh rfl ?_
    refine ev_alen rfl hq rfl ?_
    refine ev_icmp rfl (fun (c10 : nI m ≤ p) => ?_) (fun (c10 : ¬ (nI m ≤ p)) => ?_)
    · skip
      exact ev_ret rfl rfl rfl (by unfold rPut; first | rw [if_pos (xin_of hm c1 c10)] | (rw [if_neg (by rw [xin_lt c1]; decide), hs_self hq]) | (rw [if_neg (by rw [xin_ge hm c10]; decide), hs_self hq]))
    · skip
      refine ev_run 1 (F' := (14, [some (.ref h), some (.int p), some (.int v)], [.ref h])) rfl ?_
      refine ev_getf rfl hh rfl ?_
      refine ev_run 2 (F' := (19, [some (.ref h), some (.int p), some (.int v)], [.int v, .int p, .ref q])) rfl ?_
      refine ev_iast rfl hq (show xin p m = true from xin_of hm c1 c10) ?_
      exact ev_ret rfl rfl rfl (by unfold rPut; first | rw [if_pos (xin_of hm c1 c10)] | (rw [if_neg (by rw [xin_lt c1]; decide), hs_self hq]) | (rw [if_neg (by rw [xin_ge hm c10]; decide), hs_self hq]))
theorem c_has {S : Nat × (Nat → Int32)} {d : Nat} {H : List xE} {z : Bool × Nat × Nat} {h q : Nat} {sz : Int32} (hh : H[h]? = some (.inr (4, [.ref q, .int sz]))) {p : Int32} : Cm S d 56 [.ref h, .int p] (H, z) (.inr (some (.int (if ¬ p < 0 ∧ ¬ sz ≤ p then 1 else 0))), (H, z)) := by
  show Ev S d 56 (0, [some (.ref h), some (.int p)], []) (H, z) _
  refine ev_run 1 (F' := (1, [some (.ref h), some (.int p)], [.int p])) rfl ?_
  refine ev_if rfl (fun (c1 : p < 0) => ?_) (fun (c1 : ¬ (p < 0)) => ?_)
  · skip
    refine ev_run 1 (F' := (17, [some (.ref h), some (.int p)], [.int 0])) rfl ?_
    exact ev_ret rfl rfl rfl (by simp_all)
  · skip
    refine ev_run 2 (F' := (6, [some (.ref h), some (.int p)], [.ref h, .int p])) rfl ?_
    refine ev_getf rfl hh rfl ?_
    refine ev_icmp rfl (fun (c9 : sz ≤ p) => ?_) (fun (c9 : ¬ (sz ≤ p)) => ?_)
    · skip
      refine ev_run 1 (F' := (17, [some (.ref h), some (.int p)], [.int 0])) rfl ?_
      exact ev_ret rfl rfl rfl (by simp_all)
    · skip
      refine ev_run 2 (F' := (17, [some (.ref h), some (.int p)], [.int 1])) rfl ?_
      exact ev_ret rfl rfl rfl (by simp_all)
theorem c_empty {S : Nat × (Nat → Int32)} {d : Nat} {H : List xE} {z : Bool × Nat × Nat} {h q : Nat} {sz : Int32} (hh : H[h]? = some (.inr (4, [.ref q, .int sz]))) : Cm S d 62 [.ref h] (H, z) (.inr none, (H.set h (.inr (4, [.ref q, .int 0])), z)) := by
  show Ev S d 62 (0, [some (.ref h)], []) (H, z) _
  refine ev_run 2 (F' := (2, [some (.ref h)], [.int 0, .ref h])) rfl ?_
  refine ev_putf rfl hh rfl ?_
  show Ev S _ _ (5, [some (.ref h)], []) ((H.set h (.inr (4, [.ref q, .int 0]))), z) _
  exact ev_ret rfl rfl rfl (rfl)
/-- the row with v put in at p, of n -/
def rIns (f : Nat → Int32) (n p : Nat) (v : Int32) : Nat → Int32 := fun k => if p < k ∧ k ≤ n then f (k - 1) else if k = p then v else f k
def rSh (f : Nat → Int32) (n j : Nat) : Nat → Int32 := fun k => if n - j < k ∧ k ≤ n then f (k - 1) else f k
theorem nI_nle2 {a b : Nat} (h : a < b) (hb : b < 2147483648) : ¬ nI b ≤ nI a := nI_ge h hb
theorem nI_lt2 {a b : Nat} (h : a < b) (hb : b < 2147483648) : ¬ nI b ≤ nI a := nI_ge h hb
theorem nI_m1 (n : Nat) (h : 0 < n) : nI n + (-1) = nI (n - 1) := by
  obtain ⟨k, rfl⟩ : ∃ k, n = k + 1 := ⟨n - 1, by omega⟩
  exact pk_m1 k
theorem nI_down {n j : Nat} (h : j < n) : nI (n - j) + (-1) = nI (n - (j + 1)) := by
  rw [nI_m1 _ (by omega), show n - j - 1 = n - (j + 1) by omega]
theorem nI_sub1 {n j : Nat} (h : j < n) : nI (n - j) - 1 = nI (n - j - 1) := by
  have := pk_sub (a := n - j) (b := 1) (by omega)
  exact this
theorem hs_set2 {H : List xE} {q : Nat} {a b : xE} : (H.set q a).set q b = H.set q b := List.set_set ..
theorem rSh_0 {f : Nat → Int32} {n : Nat} : rSh f n 0 = f := by
  funext k
  unfold rSh
  rw [if_neg (by omega)]
theorem rSh_step {f : Nat → Int32} {n j : Nat} (h : j < n) : upd (rSh f n j) (n - j) (rSh f n j (n - j - 1)) = rSh f n (j + 1) := by
  funext k
  unfold upd rSh
  by_cases hk : k = n - j
  · subst hk
    rw [if_pos rfl, if_neg (by omega), if_pos (by omega)]
  · rw [if_neg hk]
    by_cases hc : n - j < k ∧ k ≤ n
    · rw [if_pos hc, if_pos (by omega)]
    · rw [if_neg hc, if_neg (by omega)]
theorem rIns_of {f : Nat → Int32} {n p : Nat} {v : Int32} (h : p ≤ n) : upd (rSh f n (n - p)) p v = rIns f n p v := by
  funext k
  unfold upd rSh rIns
  by_cases hk : k = p
  · subst hk
    rw [if_pos rfl, if_neg (by omega), if_pos rfl]
  · rw [if_neg hk]
    by_cases hc : p < k ∧ k ≤ n
    · rw [if_pos (by omega), if_pos hc]
    · rw [if_neg (by omega), if_neg hc, if_neg hk]
theorem c_openAt {S : Nat × (Nat → Int32)} {d : Nat} {H : List xE} {z : Bool × Nat × Nat} {h q m n p : Nat} {f : Nat → Int32} (hh : H[h]? = some (.inr (4, [.ref q, .int (nI n)]))) (hq : H[q]? = some (.inl (0, m, .inl f))) (hm : m < 2147483648) (hn : n < m) (hp : p ≤ n) (hne : h ≠ q) {v : Int32} : Cm S (d + 1) 60 [.ref h, .int (nI p), .int v] (H, z) (.inr none, ((H.set q (.inl (0, m, .inl (rIns f n p v)))).set h (.inr (4, [.ref q, .int (nI (n + 1))])), z)) := by
  show Ev S (d + 1) 60 (0, [some (.ref h), some (.int (nI p)), some (.int v), none], []) (H, z) _
  refine ev_run 1 (F' := (1, [some (.ref h), some (.int (nI p)), some (.int v), none], [.ref h])) rfl ?_
  refine ev_getf rfl hh rfl ?_
  refine ev_run 1 (F' := (5, [some (.ref h), some (.int (nI p)), some (.int v), none], [.ref h, .int (nI n)])) rfl ?_
  refine ev_getf rfl hh rfl ?_
  refine ev_alen rfl hq rfl ?_
  refine ev_icmp_F rfl (show ¬ (nI m ≤ (nI n)) from nI_nle2 hn hm) ?_
  refine ev_run 1 (F' := (13, [some (.ref h), some (.int (nI p)), some (.int v), none], [.int (nI p)])) rfl ?_
  refine ev_if_F rfl (show ¬ ((nI p) < 0) from nI_pos (by omega)) ?_
  refine ev_run 2 (F' := (18, [some (.ref h), some (.int (nI p)), some (.int v), none], [.ref h, .int (nI p)])) rfl ?_
  refine ev_getf rfl hh rfl ?_
  refine ev_icmp_T rfl (show (nI p) ≤ (nI n) from (nI_leI (by omega) (by omega)).mpr hp) ?_
  refine ev_run 1 (F' := (26, [some (.ref h), some (.int (nI p)), some (.int v), none], [.ref h])) rfl ?_
  refine ev_getf rfl hh rfl ?_
  refine ev_run 1 (F' := (30, [some (.ref h), some (.int (nI p)), some (.int v), some (.int (nI n))], [])) rfl ?_
  refine ev_cast (F1 := (fun j => ((30, [some (.ref h), some (.int (nI p)), some (.int v), some (.int (nI (n - j)))], []) : xF)) 0) (M1 := (fun j => (((H.set q (.inl (0, m, .inl (rSh f n j)))), z) : xM)) 0) (by show ((30, [some (.ref h), some (.int (nI p)), some (.int v), some (.int (nI n))], []) : xF) = (30, [some (.ref h), some (.int (nI p)), some (.int v), some (.int (nI (n - 0)))], []); rfl) (by show ((H, z) : xM) = ((H.set q (.inl (0, m, .inl (rSh f n 0)))), z); rw [rSh_0, hs_self hq]) (ev_iter (fr := fun j => ((30, [some (.ref h), some (.int (nI p)), some (.int v), some (.int (nI (n - j)))], []) : xF)) (Mm := fun j => (((H.set q (.inl (0, m, .inl (rSh f n j)))), z) : xM)) ((n - p)) (fun j hj ih => ?_) ?_)
  · show Ev S _ _ (30, [some (.ref h), some (.int (nI p)), some (.int v), some (.int (nI (n - j)))], []) ((H.set q (.inl (0, m, .inl (rSh f n j)))), z) _
    refine ev_run 2 (F' := (32, [some (.ref h), some (.int (nI p)), some (.int v), some (.int (nI (n - j)))], [.int (nI p), .int (nI (n - j))])) rfl ?_
    refine ev_icmp_F rfl (show ¬ ((nI (n - j)) ≤ (nI p)) from nI_lt2 (show p < n - j by omega) (by omega)) ?_
    refine ev_run 6 (F' := (41, [some (.ref h), some (.int (nI p)), some (.int v), some (.int (nI (n - j)))], [.int ((nI (n - j)) - 1), .ref h, .int (nI (n - j)), .ref h])) rfl ?_
    refine ev_callV (x := (.invokevirtual 27, 3, 57, 4, 508, .null)) (as := [.int ((nI (n - j)) - 1)]) (rest := [.int (nI (n - j)), .ref h]) rfl rfl (hs_ne (Ne.symm hne) hh) (c_at (hs_ne (Ne.symm hne) hh) (hs_eq hq) (by first | assumption | decide)) rfl ?_
    refine ev_callV (x := (.invokevirtual 31, 3, 58, 4, 509, .null)) (as := [.int (nI (n - j)), .int (rAt m (rSh f n j) ((nI (n - j)) - 1))]) (rest := []) rfl rfl (hs_ne (Ne.symm hne) hh) (c_change (hs_ne (Ne.symm hne) hh) (hs_eq hq) (by first | assumption | decide)) rfl ?_
    refine ev_run 2 (F' := (30, [some (.ref h), some (.int (nI p)), some (.int v), some (.int ((nI (n - j)) + (-1)))], [])) rfl ?_
    refine ev_cast (F1 := (30, [some (.ref h), some (.int (nI p)), some (.int v), some (.int (nI (n - (j + 1))))], [])) (M1 := ((H.set q (.inl (0, m, .inl (rSh f n (j + 1))))), z)) (by rw [nI_down (show j < n by omega)]) (by rw [hs_set2, nI_sub1 (show j < n by omega), rAt_nI (by omega) hm, rPut_nI (by omega) hm, rSh_step (by omega)]) ih
  · show Ev S _ _ (30, [some (.ref h), some (.int (nI p)), some (.int v), some (.int (nI (n - (n - p))))], []) ((H.set q (.inl (0, m, .inl (rSh f n (n - p))))), z) _
    refine ev_run 2 (F' := (32, [some (.ref h), some (.int (nI p)), some (.int v), some (.int (nI (n - (n - p))))], [.int (nI p), .int (nI (n - (n - p)))])) rfl ?_
    refine ev_icmp_T rfl (show (nI (n - (n - p))) ≤ (nI p) from (nI_leI (by omega) (by omega)).mpr (by omega)) ?_
    refine ev_run 3 (F' := (56, [some (.ref h), some (.int (nI p)), some (.int v), some (.int (nI (n - (n - p))))], [.int v, .int (nI p), .ref h])) rfl ?_
    refine ev_callV (x := (.invokevirtual 31, 3, 58, 4, 509, .null)) (as := [.int (nI p), .int v]) (rest := []) rfl rfl (hs_ne (Ne.symm hne) hh) (c_change (hs_ne (Ne.symm hne) hh) (hs_eq hq) (by first | assumption | decide)) rfl ?_
    refine ev_run 2 (F' := (61, [some (.ref h), some (.int (nI p)), some (.int v), some (.int (nI (n - (n - p))))], [.ref h, .ref h])) rfl ?_
    refine ev_getf rfl (hs_ne (Ne.symm hne) (hs_ne (Ne.symm hne) hh)) rfl ?_
    refine ev_run 2 (F' := (66, [some (.ref h), some (.int (nI p)), some (.int v), some (.int (nI (n - (n - p))))], [.int ((nI n) + 1), .ref h])) rfl ?_
    refine ev_putf rfl (hs_ne (Ne.symm hne) (hs_ne (Ne.symm hne) hh)) rfl ?_
    show Ev S _ _ (69, [some (.ref h), some (.int (nI p)), some (.int v), some (.int (nI (n - (n - p))))], []) ((((H.set q (.inl (0, m, .inl (rSh f n (n - p))))).set q (.inl (0, m, .inl (rPut m (rSh f n (n - p)) (nI p) v)))).set h (.inr (4, [.ref q, .int ((nI n) + 1)]))), z) _
    exact ev_ret rfl rfl rfl (by rw [hs_set2, rPut_nI (by omega) hm, rIns_of hp, nI_1])
theorem rIns_end {f : Nat → Int32} {n : Nat} {v : Int32} : rIns f n n v = upd f n v := by
  funext k
  unfold rIns upd
  rw [if_neg (by omega)]
theorem c_append {S : Nat × (Nat → Int32)} {d : Nat} {H : List xE} {z : Bool × Nat × Nat} {h q m n : Nat} {f : Nat → Int32} (hh : H[h]? = some (.inr (4, [.ref q, .int (nI n)]))) (hq : H[q]? = some (.inl (0, m, .inl f))) (hm : m < 2147483648) (hn : n < m) (hne : h ≠ q) {v : Int32} : Cm S (d + 2) 59 [.ref h, .int v] (H, z) (.inr none, ((H.set q (.inl (0, m, .inl (upd f n v)))).set h (.inr (4, [.ref q, .int (nI (n + 1))])), z)) := by
  show Ev S (d + 2) 59 (0, [some (.ref h), some (.int v)], []) (H, z) _
  refine ev_run 2 (F' := (2, [some (.ref h), some (.int v)], [.ref h, .ref h])) rfl ?_
  refine ev_getf rfl hh rfl ?_
  refine ev_run 1 (F' := (6, [some (.ref h), some (.int v)], [.int v, .int (nI n), .ref h])) rfl ?_
  refine ev_callV (x := (.invokevirtual 23, 3, 60, 4, 619, .null)) (as := [.int (nI n), .int v]) (rest := []) rfl rfl hh (c_openAt hh hq hm hn (Nat.le_refl n) hne) rfl ?_
  exact ev_ret rfl rfl rfl (by rw [rIns_end])
/-- the row without what stood at p -/
def rDel (f : Nat → Int32) (n p : Nat) : Nat → Int32 := fun k => if p ≤ k ∧ k + 1 < n then f (k + 1) else f k
def rDl (f : Nat → Int32) (p j : Nat) : Nat → Int32 := fun k => if p ≤ k ∧ k < p + j then f (k + 1) else f k
theorem rDl_0 {f : Nat → Int32} {p : Nat} : rDl f p 0 = f := by
  funext k
  unfold rDl
  rw [if_neg (by omega)]
theorem rDl_step {f : Nat → Int32} {p j : Nat} : upd (rDl f p j) (p + j) (rDl f p j (p + j + 1)) = rDl f p (j + 1) := by
  funext k
  unfold upd rDl
  by_cases hk : k = p + j
  · subst hk
    rw [if_pos rfl, if_neg (by omega), if_pos (by omega)]
  · rw [if_neg hk]
    by_cases hc : p ≤ k ∧ k < p + j
    · rw [if_pos hc, if_pos (by omega)]
    · rw [if_neg hc, if_neg (by omega)]
theorem rDl_end {f : Nat → Int32} {n p : Nat} (h : p < n) : rDl f p (n - 1 - p) = rDel f n p := by
  funext k
  unfold rDl rDel
  by_cases hc : p ≤ k ∧ k + 1 < n
  · rw [if_pos (by omega), if_pos hc]
  · rw [if_neg (by omega), if_neg hc]
theorem nI_p1 {n : Nat} (h : 0 < n) : nI n - 1 = nI (n - 1) := by
  have := pk_sub (a := n) (b := 1) h
  exact this
theorem c_closeAt {S : Nat × (Nat → Int32)} {d : Nat} {H : List xE} {z : Bool × Nat × Nat} {h q m n p : Nat} {f : Nat → Int32} (hh : H[h]? = some (.inr (4, [.ref q, .int (nI n)]))) (hq : H[q]? = some (.inl (0, m, .inl f))) (hm : m < 2147483648) (hn : n ≤ m) (hp : p < n) (hne : h ≠ q) : Cm S (d + 1) 61 [.ref h, .int (nI p)] (H, z) (.inr none, ((H.set q (.inl (0, m, .inl (rDel f n p)))).set h (.inr (4, [.ref q, .int (nI (n - 1))])), z)) := by
  show Ev S (d + 1) 61 (0, [some (.ref h), some (.int (nI p)), none], []) (H, z) _
  refine ev_run 2 (F' := (2, [some (.ref h), some (.int (nI p)), none], [.int (nI p), .ref h])) rfl ?_
  refine ev_callV (x := (.invokevirtual 34, 3, 56, 4, 711, .null)) (as := [.int (nI p)]) (rest := []) rfl rfl hh (c_has hh) rfl ?_
  refine ev_if_T rfl (show ¬ (if ¬ nI p < 0 ∧ ¬ nI n ≤ nI p then 1 else 0) = 0 from by rw [if_pos ⟨nI_pos (by omega), nI_ge hp (by omega)⟩]; decide) ?_
  refine ev_run 2 (F' := (11, [some (.ref h), some (.int (nI p)), some (.int (nI p))], [])) rfl ?_
  refine ev_cast (F1 := (fun j => ((11, [some (.ref h), some (.int (nI p)), some (.int (nI (p + j)))], []) : xF)) 0) (M1 := (fun j => (((H.set q (.inl (0, m, .inl (rDl f p j)))), z) : xM)) 0) (by show ((11, [some (.ref h), some (.int (nI p)), some (.int (nI p))], []) : xF) = (11, [some (.ref h), some (.int (nI p)), some (.int (nI (p + 0)))], []); rfl) (by show ((H, z) : xM) = ((H.set q (.inl (0, m, .inl (rDl f p 0)))), z); rw [rDl_0, hs_self hq]) (ev_iter (fr := fun j => ((11, [some (.ref h), some (.int (nI p)), some (.int (nI (p + j)))], []) : xF)) (Mm := fun j => (((H.set q (.inl (0, m, .inl (rDl f p j)))), z) : xM)) ((n - 1 - p)) (fun j hj ih => ?_) ?_)
  · show Ev S _ _ (11, [some (.ref h), some (.int (nI p)), some (.int (nI (p + j)))], []) ((H.set q (.inl (0, m, .inl (rDl f p j)))), z) _
    refine ev_run 2 (F' := (13, [some (.ref h), some (.int (nI p)), some (.int (nI (p + j)))], [.ref h, .int (nI (p + j))])) rfl ?_
    refine ev_getf rfl (hs_ne (Ne.symm hne) hh) rfl ?_
    refine ev_run 2 (F' := (18, [some (.ref h), some (.int (nI p)), some (.int (nI (p + j)))], [.int ((nI n) - 1), .int (nI (p + j))])) rfl ?_
    refine ev_icmp_F rfl (show ¬ (((nI n) - 1) ≤ (nI (p + j))) from by rw [nI_p1 (by omega)]; exact nI_ge (by omega) (by omega)) ?_
    refine ev_run 6 (F' := (27, [some (.ref h), some (.int (nI p)), some (.int (nI (p + j)))], [.int ((nI (p + j)) + 1), .ref h, .int (nI (p + j)), .ref h])) rfl ?_
    refine ev_callV (x := (.invokevirtual 27, 3, 57, 4, 508, .null)) (as := [.int ((nI (p + j)) + 1)]) (rest := [.int (nI (p + j)), .ref h]) rfl rfl (hs_ne (Ne.symm hne) hh) (c_at (hs_ne (Ne.symm hne) hh) (hs_eq hq) (by first | assumption | decide)) rfl ?_
    refine ev_callV (x := (.invokevirtual 31, 3, 58, 4, 509, .null)) (as := [.int (nI (p + j)), .int (rAt m (rDl f p j) ((nI (p + j)) + 1))]) (rest := []) rfl rfl (hs_ne (Ne.symm hne) hh) (c_change (hs_ne (Ne.symm hne) hh) (hs_eq hq) (by first | assumption | decide)) rfl ?_
    refine ev_run 2 (F' := (11, [some (.ref h), some (.int (nI p)), some (.int ((nI (p + j)) + 1))], [])) rfl ?_
    refine ev_cast (F1 := (11, [some (.ref h), some (.int (nI p)), some (.int (nI (p + (j + 1))))], [])) (M1 := ((H.set q (.inl (0, m, .inl (rDl f p (j + 1))))), z)) (by rw [nI_1, Nat.add_assoc]) (by rw [hs_set2, nI_1, rAt_nI (by omega) hm, rPut_nI (by omega) hm, rDl_step]) ih
  · show Ev S _ _ (11, [some (.ref h), some (.int (nI p)), some (.int (nI (p + (n - 1 - p))))], []) ((H.set q (.inl (0, m, .inl (rDl f p (n - 1 - p))))), z) _
    refine ev_run 2 (F' := (13, [some (.ref h), some (.int (nI p)), some (.int (nI (p + (n - 1 - p))))], [.ref h, .int (nI (p + (n - 1 - p)))])) rfl ?_
    refine ev_getf rfl (hs_ne (Ne.symm hne) hh) rfl ?_
    refine ev_run 2 (F' := (18, [some (.ref h), some (.int (nI p)), some (.int (nI (p + (n - 1 - p))))], [.int ((nI n) - 1), .int (nI (p + (n - 1 - p)))])) rfl ?_
    refine ev_icmp_T rfl (show ((nI n) - 1) ≤ (nI (p + (n - 1 - p))) from by rw [nI_p1 (by omega)]; exact nI_le (by omega) (by omega)) ?_
    refine ev_run 2 (F' := (41, [some (.ref h), some (.int (nI p)), some (.int (nI (p + (n - 1 - p))))], [.ref h, .ref h])) rfl ?_
    refine ev_getf rfl (hs_ne (Ne.symm hne) hh) rfl ?_
    refine ev_run 2 (F' := (46, [some (.ref h), some (.int (nI p)), some (.int (nI (p + (n - 1 - p))))], [.int ((nI n) - 1), .ref h])) rfl ?_
    refine ev_putf rfl (hs_ne (Ne.symm hne) hh) rfl ?_
    show Ev S _ _ (49, [some (.ref h), some (.int (nI p)), some (.int (nI (p + (n - 1 - p))))], []) (((H.set q (.inl (0, m, .inl (rDl f p (n - 1 - p))))).set h (.inr (4, [.ref q, .int ((nI n) - 1)]))), z) _
    exact ev_ret rfl rfl rfl (by rw [rDl_end hp, nI_p1 (by omega)])
def rCpy (f g : Nat → Int32) (n : Nat) : Nat → Int32 := fun k => if k < n then g k else f k
theorem rCpy_0 {f g : Nat → Int32} : rCpy f g 0 = f := by
  funext k
  unfold rCpy
  rw [if_neg (by omega)]
theorem rCpy_step {f g : Nat → Int32} {j : Nat} : upd (rCpy f g j) j (g j) = rCpy f g (j + 1) := by
  funext k
  unfold upd rCpy
  by_cases hk : k = j
  · subst hk
    rw [if_pos rfl, if_pos (by omega)]
  · rw [if_neg hk]
    by_cases hc : k < j
    · rw [if_pos hc, if_pos (by omega)]
    · rw [if_neg hc, if_neg (by omega)]
theorem hs_comm {H : List xE} {a b : Nat} {x y : xE} (h : a ≠ b) : (H.set a x).set b y = (H.set b y).set a x := List.set_comm _ _ h
theorem c_copy {S : Nat × (Nat → Int32)} {d : Nat} {H : List xE} {z : Bool × Nat × Nat} {h q m h2 q2 m2 n : Nat} {f g : Nat → Int32} {sz : Int32} (hh : H[h]? = some (.inr (4, [.ref q, .int sz]))) (hq : H[q]? = some (.inl (0, m, .inl f))) (hm : m < 2147483648) (hn : n ≤ m) (hne : h ≠ q) (hh2 : H[h2]? = some (.inr (4, [.ref q2, .int (nI n)]))) (hq2 : H[q2]? = some (.inl (0, m2, .inl g))) (hm2 : m2 < 2147483648) (hn2 : n ≤ m2) (n1 : h ≠ h2) (n2 : h ≠ q2) (n3 : q ≠ h2) (n4 : q ≠ q2) : Cm S (d + 1) 63 [.ref h, .ref h2] (H, z) (.inr none, ((H.set h (.inr (4, [.ref q, .int (nI n)]))).set q (.inl (0, m, .inl (rCpy f g n))), z)) := by
  show Ev S (d + 1) 63 (0, [some (.ref h), some (.ref h2), none], []) (H, z) _
  refine ev_run 2 (F' := (2, [some (.ref h), some (.ref h2), none], [.ref h2, .ref h])) rfl ?_
  refine ev_getf rfl hh2 rfl ?_
  refine ev_run 1 (F' := (6, [some (.ref h), some (.ref h2), none], [.ref h, .int (nI n), .ref h])) rfl ?_
  refine ev_getf rfl hh rfl ?_
  refine ev_alen rfl hq rfl ?_
  refine ev_run 1 (F' := (13, [some (.ref h), some (.ref h2), none], [.int (if nI m < (nI n) then nI m else (nI n)), .ref h])) rfl ?_
  refine ev_cast (F1 := (13, [some (.ref h), some (.ref h2), none], [.int (nI n), .ref h])) (M1 := (H, z)) (by rw [if_neg (show ¬ nI m < nI n from fun hx => absurd ((nI_ltI (by omega) (by omega)).mp hx) (by omega))]) rfl ?_
  refine ev_putf rfl hh rfl ?_
  show Ev S _ _ (16, [some (.ref h), some (.ref h2), none], []) ((H.set h (.inr (4, [.ref q, .int (nI n)]))), z) _
  refine ev_run 2 (F' := (18, [some (.ref h), some (.ref h2), some (.int 0)], [])) rfl ?_
  refine ev_cast (F1 := (fun j => ((18, [some (.ref h), some (.ref h2), some (.int (nI j))], []) : xF)) 0) (M1 := (fun j => ((((H.set h (.inr (4, [.ref q, .int (nI n)]))).set q (.inl (0, m, .inl (rCpy f g j)))), z) : xM)) 0) (by show ((18, [some (.ref h), some (.ref h2), some (.int 0)], []) : xF) = (18, [some (.ref h), some (.ref h2), some (.int (nI 0))], []); rfl) (by show (((H.set h (.inr (4, [.ref q, .int (nI n)]))), z) : xM) = (((H.set h (.inr (4, [.ref q, .int (nI n)]))).set q (.inl (0, m, .inl (rCpy f g 0)))), z); rw [rCpy_0, hs_self (hs_ne hne hq)]) (ev_iter (fr := fun j => ((18, [some (.ref h), some (.ref h2), some (.int (nI j))], []) : xF)) (Mm := fun j => ((((H.set h (.inr (4, [.ref q, .int (nI n)]))).set q (.inl (0, m, .inl (rCpy f g j)))), z) : xM)) (n) (fun j hj ih => ?_) ?_)
  · show Ev S _ _ (18, [some (.ref h), some (.ref h2), some (.int (nI j))], []) (((H.set h (.inr (4, [.ref q, .int (nI n)]))).set q (.inl (0, m, .inl (rCpy f g j)))), z) _
    refine ev_run 2 (F' := (20, [some (.ref h), some (.ref h2), some (.int (nI j))], [.ref h, .int (nI j)])) rfl ?_
    refine ev_getf rfl (hs_ne (Ne.symm hne) (hs_eq hh)) rfl ?_
    refine ev_icmp_F rfl (show ¬ ((nI n) ≤ (nI j)) from nI_ge hj (by omega)) ?_
    refine ev_run 4 (F' := (30, [some (.ref h), some (.ref h2), some (.int (nI j))], [.int (nI j), .ref h2, .int (nI j), .ref h])) rfl ?_
    refine ev_callV (x := (.invokevirtual 27, 3, 57, 4, 508, .null)) (as := [.int (nI j)]) (rest := [.int (nI j), .ref h]) rfl rfl (hs_ne n3 (hs_ne n1 hh2)) (c_at (hs_ne n3 (hs_ne n1 hh2)) (hs_ne n4 (hs_ne n2 hq2)) (by first | assumption | decide)) rfl ?_
    refine ev_callV (x := (.invokevirtual 31, 3, 58, 4, 509, .null)) (as := [.int (nI j), .int (rAt m2 g (nI j))]) (rest := []) rfl rfl (hs_ne (Ne.symm hne) (hs_eq hh)) (c_change (hs_ne (Ne.symm hne) (hs_eq hh)) (hs_eq (hs_ne hne hq)) (by first | assumption | decide)) rfl ?_
    refine ev_run 2 (F' := (18, [some (.ref h), some (.ref h2), some (.int ((nI j) + 1))], [])) rfl ?_
    refine ev_cast (F1 := (18, [some (.ref h), some (.ref h2), some (.int (nI (j + 1)))], [])) (M1 := (((H.set h (.inr (4, [.ref q, .int (nI n)]))).set q (.inl (0, m, .inl (rCpy f g (j + 1))))), z)) (by rw [nI_1]) (by rw [hs_set2, rAt_nI (by omega) hm2, rPut_nI (by omega) hm, rCpy_step]) ih
  · show Ev S _ _ (18, [some (.ref h), some (.ref h2), some (.int (nI n))], []) (((H.set h (.inr (4, [.ref q, .int (nI n)]))).set q (.inl (0, m, .inl (rCpy f g n)))), z) _
    refine ev_run 2 (F' := (20, [some (.ref h), some (.ref h2), some (.int (nI n))], [.ref h, .int (nI n)])) rfl ?_
    refine ev_getf rfl (hs_ne (Ne.symm hne) (hs_eq hh)) rfl ?_
    refine ev_icmp_T rfl (show (nI n) ≤ (nI n) from nI_le (Nat.le_refl n) (by omega)) ?_
    exact ev_ret rfl rfl rfl rfl
/-- the first place below N where P holds, or N -/
def xfst (P : Nat → Bool) : Nat → Nat
  | 0 => 0
  | N + 1 => bif Nat.blt (xfst P N) N then xfst P N else (bif P N then N else N + 1)
theorem xfst_le (P : Nat → Bool) (N : Nat) : xfst P N ≤ N := by
  induction N with
  | zero => exact Nat.le_refl _
  | succ N ih =>
    unfold xfst
    cases hb : Nat.blt (xfst P N) N with
    | true => exact Nat.le_succ_of_le ih
    | false => cases P N <;> simp
theorem xfst_ge (P : Nat → Bool) (N : Nat) : ¬ xfst P N < N → xfst P N = N := fun h => by have := xfst_le P N; omega
theorem xfst_lt (P : Nat → Bool) (N : Nat) : ∀ j, j < xfst P N → P j = false := by
  induction N with
  | zero => intro j h; exact absurd h (Nat.not_lt_zero _)
  | succ N ih =>
    intro j h
    unfold xfst at h
    cases hb : Nat.blt (xfst P N) N with
    | true => rw [hb] at h; exact ih j h
    | false =>
      rw [hb] at h
      have he : xfst P N = N := xfst_ge P N (fun q => by rw [show Nat.blt (xfst P N) N = true from Nat.ble_eq_true_of_le q] at hb; cases hb)
      rcases Nat.lt_or_ge j N with q | q
      · exact ih j (by rw [he]; exact q)
      · cases hP : P N with
        | true => rw [hP] at h; dsimp only [cond_true, cond_false] at h; omega
        | false =>
          rw [hP] at h
          dsimp only [cond_false] at h
          have : j = N := by omega
          rw [this]; exact hP
theorem xfst_at (P : Nat → Bool) (N : Nat) : xfst P N < N → P (xfst P N) = true := by
  induction N with
  | zero => intro h; exact absurd h (Nat.not_lt_zero _)
  | succ N ih =>
    intro h
    unfold xfst at h ⊢
    cases hb : Nat.blt (xfst P N) N with
    | true =>
      rw [hb] at h
      dsimp only [cond_true] at h ⊢
      exact ih (Nat.lt_of_lt_of_le (Nat.lt_succ_self _) (Nat.le_of_ble_eq_true hb))
    | false =>
      rw [hb] at h
      dsimp only [cond_false] at h ⊢
      cases hP : P N with
      | true => exact hP
      | false => rw [hP] at h; dsimp only [cond_false] at h; omega
def rDf (f g : Nat → Int32) : Nat → Bool := fun k => decide (¬ f k = g k)
def rCmp (f : Nat → Int32) (n : Nat) (g : Nat → Int32) (m : Nat) : Int32 := if xfst (rDf f g) (min n m) < min n m then f (xfst (rDf f g) (min n m)) - g (xfst (rDf f g) (min n m)) else nI n - nI m
theorem nI_min {a b : Nat} (ha : a < 2147483648) (hb : b < 2147483648) : (if nI b < nI a then nI b else nI a) = nI (min a b) := by
  by_cases h : b < a
  · rw [if_pos ((nI_ltI hb ha).mpr h), Nat.min_eq_right (by omega)]
  · rw [if_neg (fun q => h ((nI_ltI hb ha).mp q)), Nat.min_eq_left (by omega)]
theorem rDf_f {f g : Nat → Int32} {k : Nat} (h : rDf f g k = false) : f k = g k := by
  unfold rDf at h
  simpa using h
theorem rDf_t {f g : Nat → Int32} {k : Nat} (h : rDf f g k = true) : ¬ f k = g k := of_decide_eq_true h
theorem c_cmp {S : Nat × (Nat → Int32)} {d : Nat} {H : List xE} {z : Bool × Nat × Nat} {h q m h2 q2 m2 n n2 : Nat} {f g : Nat → Int32} (hh : H[h]? = some (.inr (4, [.ref q, .int (nI n)]))) (hq : H[q]? = some (.inl (0, m, .inl f))) (hm : m < 2147483648) (hn : n ≤ m) (hh2 : H[h2]? = some (.inr (4, [.ref q2, .int (nI n2)]))) (hq2 : H[q2]? = some (.inl (0, m2, .inl g))) (hm2 : m2 < 2147483648) (hn2 : n2 ≤ m2) : Cm S (d + 1) 64 [.ref h, .ref h2] (H, z) (.inr (some (.int (rCmp f n g n2))), (H, z)) := by
  have hN := xfst_le (rDf f g) (min n n2)
  show Ev S (d + 1) 64 (0, [some (.ref h), some (.ref h2), none, none], []) (H, z) _
  refine ev_run 1 (F' := (1, [some (.ref h), some (.ref h2), none, none], [.ref h])) rfl ?_
  refine ev_getf rfl hh rfl ?_
  refine ev_run 1 (F' := (5, [some (.ref h), some (.ref h2), none, none], [.ref h2, .int (nI n)])) rfl ?_
  refine ev_callV (x := (.invokevirtual 41, 3, 55, 4, 1126, .null)) (as := []) (rest := [.int (nI n)]) rfl rfl hh2 (c_size hh2) rfl ?_
  refine ev_run 1 (F' := (11, [some (.ref h), some (.ref h2), none, none], [.int (if (nI n2) < (nI n) then (nI n2) else (nI n))])) rfl ?_
  refine ev_cast (F1 := (11, [some (.ref h), some (.ref h2), none, none], [.int (nI (min n n2))])) (M1 := (H, z)) (by rw [nI_min (by omega) (by omega)]) rfl ?_
  refine ev_run 3 (F' := (14, [some (.ref h), some (.ref h2), some (.int (nI (min n n2))), some (.int 0)], [])) rfl ?_
  refine ev_cast (F1 := (fun j => ((14, [some (.ref h), some (.ref h2), some (.int (nI (min n n2))), some (.int (nI j))], []) : xF)) 0) (M1 := (fun j => ((H, z) : xM)) 0) (by show ((14, [some (.ref h), some (.ref h2), some (.int (nI (min n n2))), some (.int 0)], []) : xF) = (14, [some (.ref h), some (.ref h2), some (.int (nI (min n n2))), some (.int (nI 0))], []); rfl) (by show ((H, z) : xM) = (H, z); rfl) (ev_iter (fr := fun j => ((14, [some (.ref h), some (.ref h2), some (.int (nI (min n n2))), some (.int (nI j))], []) : xF)) (Mm := fun j => ((H, z) : xM)) ((xfst (rDf f g) (min n n2))) (fun j hj ih => ?_) ?_)
  · show Ev S _ _ (14, [some (.ref h), some (.ref h2), some (.int (nI (min n n2))), some (.int (nI j))], []) (H, z) _
    refine ev_run 2 (F' := (16, [some (.ref h), some (.ref h2), some (.int (nI (min n n2))), some (.int (nI j))], [.int (nI (min n n2)), .int (nI j)])) rfl ?_
    refine ev_icmp_F rfl (show ¬ ((nI (min n n2)) ≤ (nI j)) from nI_ge (by omega) (by omega)) ?_
    refine ev_run 2 (F' := (21, [some (.ref h), some (.ref h2), some (.int (nI (min n n2))), some (.int (nI j))], [.int (nI j), .ref h])) rfl ?_
    refine ev_callV (x := (.invokevirtual 27, 3, 57, 4, 508, .null)) (as := [.int (nI j)]) (rest := []) rfl rfl hh (c_at hh hq (by first | assumption | decide)) rfl ?_
    refine ev_run 2 (F' := (26, [some (.ref h), some (.ref h2), some (.int (nI (min n n2))), some (.int (nI j))], [.int (nI j), .ref h2, .int (rAt m f (nI j))])) rfl ?_
    refine ev_callV (x := (.invokevirtual 27, 3, 57, 4, 508, .null)) (as := [.int (nI j)]) (rest := [.int (rAt m f (nI j))]) rfl rfl hh2 (c_at hh2 hq2 (by first | assumption | decide)) rfl ?_
    refine ev_icmp_T rfl (show (rAt m f (nI j)) = (rAt m2 g (nI j)) from by rw [rAt_nI (by omega) hm, rAt_nI (by omega) hm2]; exact rDf_f (xfst_lt _ _ j hj)) ?_
    refine ev_run 2 (F' := (14, [some (.ref h), some (.ref h2), some (.int (nI (min n n2))), some (.int ((nI j) + 1))], [])) rfl ?_
    refine ev_cast (F1 := (14, [some (.ref h), some (.ref h2), some (.int (nI (min n n2))), some (.int (nI (j + 1)))], [])) (M1 := (H, z)) (by rw [nI_1]) (rfl) ih
  · show Ev S _ _ (14, [some (.ref h), some (.ref h2), some (.int (nI (min n n2))), some (.int (nI (xfst (rDf f g) (min n n2))))], []) (H, z) _
    rcases Nat.lt_or_ge (xfst (rDf f g) (min n n2)) (min n n2) with hx | hx
    · skip
      refine ev_run 2 (F' := (16, [some (.ref h), some (.ref h2), some (.int (nI (min n n2))), some (.int (nI (xfst (rDf f g) (min n n2))))], [.int (nI (min n n2)), .int (nI (xfst (rDf f g) (min n n2)))])) rfl ?_
      refine ev_icmp_F rfl (show ¬ ((nI (min n n2)) ≤ (nI (xfst (rDf f g) (min n n2)))) from nI_ge hx (by omega)) ?_
      refine ev_run 2 (F' := (21, [some (.ref h), some (.ref h2), some (.int (nI (min n n2))), some (.int (nI (xfst (rDf f g) (min n n2))))], [.int (nI (xfst (rDf f g) (min n n2))), .ref h])) rfl ?_
      refine ev_callV (x := (.invokevirtual 27, 3, 57, 4, 508, .null)) (as := [.int (nI (xfst (rDf f g) (min n n2)))]) (rest := []) rfl rfl hh (c_at hh hq (by first | assumption | decide)) rfl ?_
      refine ev_run 2 (F' := (26, [some (.ref h), some (.ref h2), some (.int (nI (min n n2))), some (.int (nI (xfst (rDf f g) (min n n2))))], [.int (nI (xfst (rDf f g) (min n n2))), .ref h2, .int (rAt m f (nI (xfst (rDf f g) (min n n2))))])) rfl ?_
      refine ev_callV (x := (.invokevirtual 27, 3, 57, 4, 508, .null)) (as := [.int (nI (xfst (rDf f g) (min n n2)))]) (rest := [.int (rAt m f (nI (xfst (rDf f g) (min n n2))))]) rfl rfl hh2 (c_at hh2 hq2 (by first | assumption | decide)) rfl ?_
      refine ev_icmp_F rfl (show ¬ ((rAt m f (nI (xfst (rDf f g) (min n n2)))) = (rAt m2 g (nI (xfst (rDf f g) (min n n2))))) from by rw [rAt_nI (by omega) hm, rAt_nI (by omega) hm2]; exact rDf_t (xfst_at _ _ hx)) ?_
      refine ev_run 2 (F' := (34, [some (.ref h), some (.ref h2), some (.int (nI (min n n2))), some (.int (nI (xfst (rDf f g) (min n n2))))], [.int (nI (xfst (rDf f g) (min n n2))), .ref h])) rfl ?_
      refine ev_callV (x := (.invokevirtual 27, 3, 57, 4, 508, .null)) (as := [.int (nI (xfst (rDf f g) (min n n2)))]) (rest := []) rfl rfl hh (c_at hh hq (by first | assumption | decide)) rfl ?_
      refine ev_run 2 (F' := (39, [some (.ref h), some (.ref h2), some (.int (nI (min n n2))), some (.int (nI (xfst (rDf f g) (min n n2))))], [.int (nI (xfst (rDf f g) (min n n2))), .ref h2, .int (rAt m f (nI (xfst (rDf f g) (min n n2))))])) rfl ?_
      refine ev_callV (x := (.invokevirtual 27, 3, 57, 4, 508, .null)) (as := [.int (nI (xfst (rDf f g) (min n n2)))]) (rest := [.int (rAt m f (nI (xfst (rDf f g) (min n n2))))]) rfl rfl hh2 (c_at hh2 hq2 (by first | assumption | decide)) rfl ?_
      refine ev_run 1 (F' := (43, [some (.ref h), some (.ref h2), some (.int (nI (min n n2))), some (.int (nI (xfst (rDf f g) (min n n2))))], [.int ((rAt m f (nI (xfst (rDf f g) (min n n2)))) - (rAt m2 g (nI (xfst (rDf f g) (min n n2)))))])) rfl ?_
      exact ev_ret rfl rfl rfl (by rw [rAt_nI (by omega) hm, rAt_nI (by omega) hm2]; unfold rCmp; rw [if_pos hx])
    · skip
      refine ev_run 2 (F' := (16, [some (.ref h), some (.ref h2), some (.int (nI (min n n2))), some (.int (nI (xfst (rDf f g) (min n n2))))], [.int (nI (min n n2)), .int (nI (xfst (rDf f g) (min n n2)))])) rfl ?_
      refine ev_icmp_T rfl (show (nI (min n n2)) ≤ (nI (xfst (rDf f g) (min n n2))) from nI_le hx (by omega)) ?_
      refine ev_run 1 (F' := (51, [some (.ref h), some (.ref h2), some (.int (nI (min n n2))), some (.int (nI (xfst (rDf f g) (min n n2))))], [.ref h])) rfl ?_
      refine ev_getf rfl hh rfl ?_
      refine ev_run 1 (F' := (55, [some (.ref h), some (.ref h2), some (.int (nI (min n n2))), some (.int (nI (xfst (rDf f g) (min n n2))))], [.ref h2, .int (nI n)])) rfl ?_
      refine ev_callV (x := (.invokevirtual 41, 3, 55, 4, 1126, .null)) (as := []) (rest := [.int (nI n)]) rfl rfl hh2 (c_size hh2) rfl ?_
      refine ev_run 1 (F' := (59, [some (.ref h), some (.ref h2), some (.int (nI (min n n2))), some (.int (nI (xfst (rDf f g) (min n n2))))], [.int ((nI n) - (nI n2))])) rfl ?_
      exact ev_ret rfl rfl rfl (by unfold rCmp; rw [if_neg (by omega)])

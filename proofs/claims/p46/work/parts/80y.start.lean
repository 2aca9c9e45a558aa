/-! THE CLAIM OUT OF ONE WALK OF THE LAW'S BODY. Your part is whole_start (and what it stands on); all else here is the same for every law, but numbers. -/
def R_law : String := "CheckmarkOfficeLaw"
def lw_P (b : Addr) (xs : List Int32) (args : Array Value) (s : State) : Prop := args = #[.ref b] ∧ s.IntsAt b xs ∧ xs.length ≤ 260 ∧ (Jvm.Cond.and given_1 narrow_1).before args s = true
def lw_Q (_ : Array Value) (s : State) (o : Outcome) (t : State) : Prop := o = .returned (some (.int 1)) ∧ Framed s o t [] 600258 7291722
def lw_Z (below : List Frame) (a : Array Value) (s : State) : State → Prop := fun t => ∃ o, t.status = .running ∧ Ended t below o ∧ lw_Q a s o t
/-- the law's own end, with 1 on the stack, nothing written that was there before, its room as the claim has it -/
theorem lw_ret {p : Program} {l : Launch} {e : Env} {s : State} {m : MethodId} {below : List Frame} {meth : Method} {c : Code} {b : Nat} (hx : p.tables.exec = Jvm.exec) (hb : c.code = code) (hr : meth.sig.returnType = ret) (hlocks : meth.locks = false) {pc : Nat} {H : Heap} {ls : Array Slot} (hdg : decode code pc = .ok (.ireturn, 1)) : W p l e room_1 s m #[Value.ref b] below meth c H [] 600258 7291722 (lw_Z below #[Value.ref b] s) (F0 m pc ls [.int 1]) := by
  intro T hT X
  obtain ⟨fs, hret, hrun, hended, hW, hframe⟩ := X.leave (v := some (.int 1)) (hlocks := hlocks) (fun h => by rw [hr] at h; cases h)
  have hmeth' : T.vm.method? m = some meth := X.method'
  refine ⟨T.setFrames fs, ?_, .returned (some (.int 1)), hrun, hended, rfl, ⟨_, rfl⟩, hW, hframe⟩
  jvm_step X.here [X.here.top, hx, hb, hdg, hmeth', hr, ret, narrow_b1]
  (try refine ⟨rfl, ?_⟩); (try refine ⟨rfl, ?_⟩)
  first | (intro acts; rw [hret _ acts rfl rfl rfl]) | rw [hret _ _ rfl rfl rfl]
  exact Steps.refl _
/-- what holds at the law's entry: the machine, the code, the tables' words (any of lw_tbl by 'hts w (by decide +kernel)'), the script of L ints xs at the cell b, what the Statement gives of the start (any of its parts by flat_of_before) -/
def lw_At (p : Program) (s : State) (m : MethodId) (meth : Method) (c : Code) (b L : Nat) (xs : Nat → Int32) : Prop :=
  p.tables.exec = Jvm.exec ∧ c.code = code ∧ meth.sig.returnType = ret ∧ c.maxLocals = 8 ∧ s.vm.findClass R_law = some m.cls ∧ (∀ w ∈ lw_tbl, w.before #[Value.ref b] s = true) ∧ va_X b L xs s s.heap ∧ b < s.heap.size ∧ meth.locks = false ∧ c.exceptionTable.toList = [] ∧ (Jvm.Cond.and given_1 narrow_1).before #[Value.ref b] s = true
theorem xk_lt : ∀ k, k < 12 → ∃ q, xCl[k]? = some q ∧ (∀ w ∈ u_ws q.1 q.2.1 q.2.2, w ∈ lw_tbl) ∧ Cond.instantiable q.1 q.2.2 ∈ lw_tbl := by
  intro k hk
  cases h : xCl[k]? with
  | none =>
    have := List.getElem?_eq_none_iff.mp h
    have e : xCl.length = 12 := rfl
    omega
  | some q =>
    obtain ⟨h1, -, -, h4, -, -⟩ := xCl_facts k q h
    exact ⟨q, rfl, fun w hw => (List.mem_filter.mp (h1 w hw)).1, (List.mem_filter.mp h4).1⟩
def xStrI : Bool := lw_tbl.all (fun w => match w with
  | .stringRef C k _ => (flatC (Jvm.Cond.and given_1 narrow_1)).contains (Cond.exactly (.string C k) "java/lang/String")
  | _ => true)
theorem xStrI_ok : xStrI = true := by decide +kernel
theorem xNc_all : ((List.range 6).all fun e => (List.range 6).all fun f => f == 1 || (e == f || (flatC (Jvm.Cond.and given_1 narrow_1)).contains (Cond.not (.castable (xExc.getD e "") (xExc.getD f ""))))) = true := by decide +kernel
theorem xNc_in : ∀ e, e < 6 → ∀ f, f < 6 → f ≠ 1 → e ≠ f → Cond.not (.castable (xExc.getD e "") (xExc.getD f "")) ∈ flatC (Jvm.Cond.and given_1 narrow_1) := by
  intro e he f hf h1 hne
  have h := List.all_eq_true.mp (List.all_eq_true.mp xNc_all e (List.mem_range.mpr he)) f (List.mem_range.mpr hf)
  rw [Bool.or_eq_true, Bool.or_eq_true, beq_iff_eq, beq_iff_eq] at h
  rcases h with h | h | h
  · exact absurd h h1
  · exact absurd h hne
  · exact List.contains_iff_mem.mp h
theorem nest_tables {w : Cond} (h : xNw w = true) : w.onTables = true := by cases w <;> first | rfl | cases h
theorem bk_tables {w : Cond} (h : xBk w = true) : w.onTables = true := by cases w <;> first | rfl | cases h
theorem va_refT {args : Array Value} {s : State} {t : Term} (h : (Cond.isRef t).before args s = true) : ∃ w : Value, (w = .null ∨ ∃ q, w = .ref q) ∧ t.eval args s none [] s = some w := by
  cases hv : t.eval args s none [] s with
  | none => simp [Cond.before, Cond.holds, Cond.value, hv] at h
  | some w =>
    simp only [Cond.before, Cond.holds, Cond.value, hv] at h
    cases w with
    | null => exact ⟨.null, Or.inl rfl, rfl⟩
    | ref t => exact ⟨.ref t, Or.inr ⟨t, rfl⟩, rfl⟩
    | _ => simp at h
set_option maxHeartbeats 4000000 in
set_option maxRecDepth 100000 in
/-- from the entry, for every script of at most 260 ints, the law comes to its end with true -/
theorem whole_start (hok : ∀ i, i < 179 → xokQ i) (hlaw : ∀ S : Nat × (Nat → Int32), S.1 ≤ 260 → ∃ (H' : List xE) (z' : Bool × Nat × Nat), z'.2.1 ≤ 169 ∧ z'.2.2 ≤ 120930 ∧ Ev S 12 178 (0, [some (.ref 1000002), none, none, none, none, none, none, none], []) ([], true, 0, 0) (.inr (some (.int 1)), (H', z'))) {p : Program} {e : Env} {s : State} {m : MethodId} {below : List Frame} {meth : Method} {c : Code} (l : Launch) (hflags : l.flags = flags0) {b L : Nat} {xs : Nat → Int32} (hL : L ≤ 260) (C0 : lw_At p s m meth c b L xs) : W p l e room_1 s m #[Value.ref b] below meth c s.heap [] 0 0 (lw_Z below #[Value.ref b] s) (entryFrame m ([Value.ref b] : List Value).toArray 8) := by
  obtain ⟨hx, hb, hr, hml, hown, hts, hX, hbl, hlocks, htb, hgv⟩ := id C0
  have hs := flat_of_before _ hgv
  have hl : l.stackTraces = false := by
    unfold Launch.stackTraces
    rw [hflags]
    decide +kernel
  have hA0 : ∀ a : Nat, a < s.heap.size → ¬ (fun q : Nat => s.heap.size ≤ q) a := fun a h => Nat.not_le.mpr h
  -- the arrays that are only read
  obtain ⟨ts, es, Ts⟩ := va_Tof (args := #[Value.ref b]) (s := s) (tm := .static "CheckmarkOffice" "SCHEMES" "[C") (ty := .char) (N := 4) (f := fun k => .int (([108, 101, 110, 116] : List Int32).getD k 0)) (A := fun q : Nat => s.heap.size ≤ q) (by decide) (hs _ (by decide +kernel)) (va_eqt (hs _ (by decide +kernel))) (fun j hj => by
    match j, hj with
    | 0, _ => exact va_eqt (hs _ (by decide +kernel))
    | 1, _ => exact va_eqt (hs _ (by decide +kernel))
    | 2, _ => exact va_eqt (hs _ (by decide +kernel))
    | 3, _ => exact va_eqt (hs _ (by decide +kernel))) hA0
  obtain ⟨tc, ec, Tc⟩ := va_Tof (args := #[Value.ref b]) (s := s) (tm := .static "CheckmarkOffice$Schemes" "CHANGED" "[I") (ty := .int) (N := 10) (f := fun k => .int (([1, 5, 7, 6, 2, 8, 3, 0, 9, 4] : List Int32).getD k 0)) (A := fun q : Nat => s.heap.size ≤ q) (by decide) (hs _ (by decide +kernel)) (va_eqt (hs _ (by decide +kernel))) (fun j hj => by
    match j, hj with
    | 0, _ => exact va_eqt (hs _ (by decide +kernel))
    | 1, _ => exact va_eqt (hs _ (by decide +kernel))
    | 2, _ => exact va_eqt (hs _ (by decide +kernel))
    | 3, _ => exact va_eqt (hs _ (by decide +kernel))
    | 4, _ => exact va_eqt (hs _ (by decide +kernel))
    | 5, _ => exact va_eqt (hs _ (by decide +kernel))
    | 6, _ => exact va_eqt (hs _ (by decide +kernel))
    | 7, _ => exact va_eqt (hs _ (by decide +kernel))
    | 8, _ => exact va_eqt (hs _ (by decide +kernel))
    | 9, _ => exact va_eqt (hs _ (by decide +kernel))) hA0
  -- the text of the law
  have hsr : Cond.stringRef RL 164 "lent" ∈ lw_tbl := by decide +kernel
  obtain ⟨tt, ct, cA, kA, tq1, tq2, tq3, tq4, tq5, tq6, -⟩ := Cond.exactly_spec (args := #[Value.ref b]) (first := s) (o := none) (s := s) (idx := []) (t := .string RL 164) (cls := "java/lang/String") (hs _ (by decide +kernel))
  obtain ⟨tv, te, Tv⟩ := va_Tof (args := #[Value.ref b]) (s := s) (tm := .field (.string RL 164) "java/lang/String" "value" "[B") (ty := .byte) (N := 4) (f := fun k => .int (([108, 101, 110, 116] : List Int32).getD k 0)) (A := fun q : Nat => s.heap.size ≤ q) (by decide) (hs _ (by decide +kernel)) (va_eqt (hs _ (by decide +kernel))) (fun j hj => by
    match j, hj with
    | 0, _ => exact va_eqt (hs _ (by decide +kernel))
    | 1, _ => exact va_eqt (hs _ (by decide +kernel))
    | 2, _ => exact va_eqt (hs _ (by decide +kernel))
    | 3, _ => exact va_eqt (hs _ (by decide +kernel))) hA0
  have tc0 : (Cond.eq (.field (.string RL 164) "java/lang/String" "coder" "B") (.int 0)).before #[Value.ref b] s = true := hs _ (by decide +kernel)
  have tc1 : (Cond.eq (.static "java/lang/String" "COMPACT_STRINGS" "Z") (.int 1)).before #[Value.ref b] s = true := hs _ (by decide +kernel)
  obtain ⟨tw, htw, tp1⟩ := va_refT (args := #[Value.ref b]) (s := s) (t := .static "jdk/internal/util/Preconditions" "SIOOBE_FORMATTER" "Ljava/util/function/BiFunction;") (hs _ (by decide +kernel))
  have hTx : xTx tt (fun q : Nat => s.heap.size ≤ q) s s.heap := ⟨vk_R.of (A := #[Value.ref b]) (hts _ hsr) tq1, tv, ⟨cA, tq3, tq5, by rw [tq6]; exact tq2, hA0 tt (Array.getElem?_eq_some_iff.mp tq3).1⟩, vk_OFof tq1 (va_eqt tc0) hA0, vk_OFof tq1 te hA0, Tv, va_Zof (args := #[Value.ref b]) (hts _ (by decide +kernel)) (hts _ (by decide +kernel)) (va_eqt tc1) hA0, tw, htw, va_Zof (args := #[Value.ref b]) (hts _ (by decide +kernel)) (hts _ (by decide +kernel)) tp1 hA0⟩
  -- the classes
  obtain ⟨dC, dI, hKc⟩ : ∃ (dC : Nat → ClassId) (dI : Nat → Nat → Nat), ∀ (k : Nat) (q : vw_C), xCl[k]? = some q → u_Kn s q.1 q.2.1 q.2.2 (dC k) (dI k) := by
    have h : ∀ k : Nat, ∃ x : ClassId × (Nat → Nat), ∀ q : vw_C, xCl[k]? = some q → u_Kn s q.1 q.2.1 q.2.2 x.1 x.2 := by
      intro k
      by_cases hk : k < 12
      · obtain ⟨q, hq, h1, h2⟩ := xk_lt k hk
        obtain ⟨cC, iS, hK⟩ := u_known (C := q.1) (T := q.2.1) (N := q.2.2) hts h1 (hts _ h2)
        exact ⟨(cC, iS), fun q' hq' => by cases hq.symm.trans hq'; exact hK⟩
      · refine ⟨(0, fun _ => 0), fun q hq => ?_⟩
        have e : xCl.length = 12 := rfl
        have := (List.getElem?_eq_some_iff.mp hq).1
        omega
    exact ⟨fun k => (h k).choose.1, fun k => (h k).choose.2, fun k q hq => (h k).choose_spec q hq⟩
  obtain ⟨a0, b0, c0⟩ : ∃ cA, ArrOfT s cA .int ∧ s.vm.findClass ("[" ++ FieldType.int.toString) = some cA := by
    obtain ⟨cA, kA, comp, h1, h2, h3⟩ := Cond.arrayClass_spec (hts (.arrayClass .int) (by decide +kernel))
    exact ⟨cA, fun n z => ⟨fun k h => (by cases h), kA, h2, comp, h3⟩, h1⟩
  obtain ⟨a1, b1, c1⟩ : ∃ cA, ArrOfT s cA .long ∧ s.vm.findClass ("[" ++ FieldType.long.toString) = some cA := by
    obtain ⟨cA, kA, comp, h1, h2, h3⟩ := Cond.arrayClass_spec (hts (.arrayClass .long) (by decide +kernel))
    exact ⟨cA, fun n z => ⟨fun k h => (by cases h), kA, h2, comp, h3⟩, h1⟩
  obtain ⟨a2, b2, c2⟩ : ∃ cA, ArrOfT s cA .boolean ∧ s.vm.findClass ("[" ++ FieldType.boolean.toString) = some cA := by
    obtain ⟨cA, kA, comp, h1, h2, h3⟩ := Cond.arrayClass_spec (hts (.arrayClass .boolean) (by decide +kernel))
    exact ⟨cA, fun n z => ⟨fun k h => (by cases h), kA, h2, comp, h3⟩, h1⟩
  obtain ⟨a3, b3, c3⟩ : ∃ cA, ArrOfT s cA .char ∧ s.vm.findClass ("[" ++ FieldType.char.toString) = some cA := by
    obtain ⟨cA, kA, comp, h1, h2, h3⟩ := Cond.arrayClass_spec (hts (.arrayClass .char) (by decide +kernel))
    exact ⟨cA, fun n z => ⟨fun k h => (by cases h), kA, h2, comp, h3⟩, h1⟩
  let dA : Nat → ClassId := fun k => if k = 0 then a0 else if k = 1 then a1 else if k = 2 then a2 else a3
  have hK : va_K (dC, dI) xCl (xtys dA) s := ⟨hKc, fun k q h => by
    match k, h with
    | 0, h => cases h; exact ⟨b0, c0⟩
    | 1, h => cases h; exact ⟨b1, c1⟩
    | 2, h => cases h; exact ⟨b2, c2⟩
    | 3, h => cases h; exact ⟨b3, c3⟩
    | n + 4, h => cases h⟩
  let ρ : Nat → Nat := fun k => if k = 1000000 then ts else if k = 1000001 then tc else if k = 1000002 then b else if k = 1000003 then tt else s.heap.size + k
  have ρs : ρ 1000000 = ts := rfl
  have ρc : ρ 1000001 = tc := rfl
  have ρb : ρ 1000002 = b := rfl
  have ρt : ρ 1000003 = tt := rfl
  have ρk : ∀ k, k < 1000000 → ρ k = s.heap.size + k := fun k hk => by
    show (if k = 1000000 then ts else if k = 1000001 then tc else if k = 1000002 then b else if k = 1000003 then tt else s.heap.size + k) = _
    rw [if_neg (by omega), if_neg (by omega), if_neg (by omega), if_neg (by omega)]
  have hZ : xZ ρ s.heap.size (L, xs) (fun q : Nat => s.heap.size ≤ q) s s.heap := by
    refine ⟨?_, ?_, ?_, ?_, ?_, ?_, ?_, ?_, ?_, ?_, ?_, hTx, Nat.le_refl _⟩
    · exact va_Zof (args := #[Value.ref b]) (hts _ (by decide +kernel)) (hts _ (by decide +kernel)) es hA0
    · exact va_Zof (args := #[Value.ref b]) (hts _ (by decide +kernel)) (hts _ (by decide +kernel)) ec hA0
    · exact Ts
    · exact Tc
    · obtain ⟨scr, g1, g2, g3, g4, g5⟩ := hX
      exact ⟨scr, g1, g2, g3, by show L ≤ _; omega, by rw [g4], g5, hA0 b hbl⟩
    · exact vx_Zqof (args := #[Value.ref b]) (hts _ (by decide +kernel)) (hts _ (by decide +kernel)) (hs _ (by decide +kernel)) hA0
    · exact vx_Zqof (args := #[Value.ref b]) (hts _ (by decide +kernel)) (hts _ (by decide +kernel)) (hs _ (by decide +kernel)) hA0
    · intro w hw
      obtain ⟨h1, h2⟩ := List.mem_filter.mp hw
      exact va_Nw.of (nest_tables h2) (hts w h1)
    · intro k tx hk
      have h1 := List.all_eq_true.mp xStrI_ok _ hk
      have h2 := hs _ (List.contains_iff_mem.mp h1)
      obtain ⟨sa, _, _, _, hsa, _⟩ := Cond.exactly_spec h2
      exact ⟨sa, vk_R.of (A := #[Value.ref b]) (hts _ hk) hsa⟩
    · intro e he w hw
      exact va_Nw.of (bk_tables (xBd_kind e he w hw)) (hts w (xBd_in e he w hw))
    · intro e f he hf h1 hne
      exact va_Nc.of (hs _ (xNc_in e he f hf h1 hne))
  have hDy : xDy ρ dA (dC, dI) (fun q : Nat => s.heap.size ≤ q) ([], true, 0, 0) s.heap := ⟨fun k c h => by simp at h, Nat.le_refl _, by show _ = ρ 0; rw [ρk 0 (by omega)]; rfl⟩
  obtain ⟨H', z', d1, d2, n, hn⟩ := hlaw (L, xs) hL
  have hrun := xrun (l := l) (ρ := ρ) (b0 := s.heap.size) (S := (L, xs)) (A := fun q : Nat => s.heap.size ≤ q) (dA := dA) (D := (dC, dI)) hl (fun k hk => by rw [ρk _ (by omega), ρk _ (by omega)]; omega) (fun q h => h) hok n 12 178 _ _ _ (by decide) hn
  have hl0 := xLo.entry ρ (n := 8) [.ref 1000002] (by decide)
  rw [lg_entry_eq]
  have hE : lg_sl ([Value.ref b]) = lg_sl (([.ref 1000002] : List Value).map (xv ρ)) := rfl
  rw [hE]
  generalize (lg_sl (([.ref 1000002] : List Value).map (xv ρ)) ++ List.replicate (8 - (lg_sl (([.ref 1000002] : List Value).map (xv ρ))).length) Slot.unset).toArray = ls at hl0 ⊢
  refine hrun p e s m #[Value.ref b] below meth c room_1 s.heap [] 0 0 _ ls 0 0 hx hb hml hown (fun w hw => hts w (List.mem_filter.mp hw).1) (fun h => absurd (show (xmd 178).1.name = "<init>" from h) (by decide)) hlocks htb hZ hK (by decide) (by decide) va_S.rf hDy hl0 rfl rfl (by show z'.2.1 ≤ 600258 + 0; omega) (by show z'.2.2 ≤ 7291722 + 0; omega) (by show z'.2.1 ≤ 999999; omega) ?_ ?_
  · intro v ins H1 locs1 pc1 ls1 st1 c1 s1 hv hd hret hD1 hS1 hc1 hs1
    cases hv
    have g1 : z'.2.1 = c1 := hc1.symm
    have g2 : z'.2.2 = s1 := hs1.symm
    rcases xret_cases hret with ⟨x, ty, rfl, rfl, h3, h4, h5⟩ | ⟨x, rfl, rfl, h3, h5⟩ | ⟨rfl, rfl, h3, h5⟩
    · cases h5
      refine va_forget (fun q hq => hS1.2.2 q hq) ?_
      refine W.widen (k := 600258) (n := 7291722) (by omega) (by omega) ?_
      exact lw_ret hx hb hr hlocks hd
    · cases h5
    · cases h5
  · intro k hk
    cases hk

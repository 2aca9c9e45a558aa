/-! "lent".charAt(k): the JDK's own methods that stand behind it, by contract. -/
theorem xw_i {c : Cond} (k : Nat) (h : lw_tbl[k]? = some c) (g : goodWord c = true) : c ∈ xW := List.mem_filter.mpr ⟨List.mem_of_getElem? h, g⟩
abbrev jPC : MethodName := ⟨"jdk/internal/util/Preconditions", "checkIndex", "(IILjava/util/function/BiFunction;)I"⟩
abbrev jSC : MethodName := ⟨"java/lang/String", "checkIndex", "(II)V"⟩
abbrev jCA : MethodName := ⟨"java/lang/StringLatin1", "charAt", "([BI)C"⟩
abbrev jIL : MethodName := ⟨"java/lang/String", "isLatin1", "()Z"⟩
abbrev bPC : ByteArray := prog_34_method_11_code
abbrev bSC : ByteArray := prog_26_method_155_code
abbrev bCA : ByteArray := prog_27_method_2_code
abbrev bIL : ByteArray := prog_26_method_154_code
abbrev bCH : ByteArray := prog_26_method_56_code
theorem jw_PC : Cond.code jPC bPC 3 (some .int) ∈ xW := xw_i (46 + 987) (by decide +kernel) (by decide +kernel)
theorem jw_SC : Cond.code jSC bSC 2 none ∈ xW := xw_i (46 + 982) (by decide +kernel) (by decide +kernel)
theorem jw_CA : Cond.code jCA bCA 2 (some .char) ∈ xW := xw_i (46 + 979) (by decide +kernel) (by decide +kernel)
theorem jw_IL : Cond.code jIL bIL 1 (some .boolean) ∈ xW := xw_i (46 + 974) (by decide +kernel) (by decide +kernel)
theorem jw_CH : Cond.code xChN bCH 2 (some .char) ∈ xW := xw_i (46 + 970) (by decide +kernel) (by decide +kernel)
def jr (f n : Nat) : Room := { frames := f, cells := 0, slots := 0, locals := n }
theorem jpay {cw : Cond} {args : Array Value} {s : State} (hts : ∀ w ∈ xW, w.before args s = true) (hcw : cw ∈ xW) : ∀ w ∈ cw :: xW, ∀ (a' : Array Value) (U : State), s.WarmedH U.vm → w.before a' U = true := pay_in hts (fun w hw => by
    rcases List.mem_cons.mp hw with rfl | hw
    · exact xW_good _ hcw
    · exact xW_good _ hw)
set_option maxHeartbeats 1000000 in
theorem j_PCr (l : Launch) {A : Nat → Prop} {Hh : Heap} {i n : Int32} {q : Nat} (h1 : ¬ i < 0) (h2 : i < n) : Met l jPC (.code jPC bPC 3 (some .int) :: xW) (jr 0 0) (va_Pc [.int i, .int n, .ref q] (fun U => U.heap = Hh)) (va_Qi (fun r (_ : Unit) => r = i) (fun _ t => t.heap = Hh) A) 0 0 A := by
  refine Met.ofW (cc := bPC) (maxL := 3) (ret := some .int) (by decide) rfl ?_
  intro p e s m args below meth c s₁ B hml hv
  obtain ⟨rfl, hH⟩ := hv
  have hx := B.exec
  have hb := B.bytes
  have hr := B.returns
  have hlocks := B.notSynchronized
  have hS : va_S A s.heap s.heap [] := va_S.rf
  have hl := lv_entry ([.int i, .int n, .ref q]) (n := 3) (Nat.le_of_ble_eq_true rfl)
  rw [lg_entry_eq]
  generalize (lg_sl ([.int i, .int n, .ref q]) ++ List.replicate (3 - (lg_sl ([.int i, .int n, .ref q])).length) Slot.unset).toArray = ls at hl ⊢
  have hl : lv_has ls 3 [(0, .int i), (1, .int n), (2, .ref q)] := hl
  refine lv_iload_n hx hb (show decode bPC 0 = .ok (.iload_n 0, 1) by decide +kernel) rfl (lv_at hl 0 rfl) ?_
  refine lv_if_lt (tgt := 9) hx hb (show decode bPC 1 = .ok (.ifCond .lt 8, 3) by decide +kernel) (by decide) (fun z => absurd z h1) (fun _ => ?_)
  refine lv_iload_n hx hb (show decode bPC 4 = .ok (.iload_n 0, 1) by decide +kernel) rfl (lv_at hl 0 rfl) ?_
  refine lv_iload_n hx hb (show decode bPC 5 = .ok (.iload_n 1, 1) by decide +kernel) rfl (lv_at hl 1 rfl) ?_
  refine lv_icmp_lt (tgt := 16) hx hb (show decode bPC 6 = .ok (.if_icmp .lt 10, 3) by decide +kernel) (by decide) (fun _ => ?_) (fun z => absurd h2 z)
  refine lv_iload_n hx hb (show decode bPC 16 = .ok (.iload_n 0, 1) by decide +kernel) rfl (lv_at hl 0 rfl) ?_
  exact W.iret (v := i) hx hb hr (fun t ht hW => ⟨⟨i, (), rfl, rfl, ht.trans hH⟩, hS.F ht⟩) hS.2.2 (show decode bPC 17 = .ok (.ireturn, 1) by decide +kernel)
set_option maxHeartbeats 1000000 in
theorem j_PCn (l : Launch) {A : Nat → Prop} {Hh : Heap} {i n : Int32} (h1 : ¬ i < 0) (h2 : i < n) : Met l jPC (.code jPC bPC 3 (some .int) :: xW) (jr 0 0) (va_Pc [.int i, .int n, .null] (fun U => U.heap = Hh)) (va_Qi (fun r (_ : Unit) => r = i) (fun _ t => t.heap = Hh) A) 0 0 A := by
  refine Met.ofW (cc := bPC) (maxL := 3) (ret := some .int) (by decide) rfl ?_
  intro p e s m args below meth c s₁ B hml hv
  obtain ⟨rfl, hH⟩ := hv
  have hx := B.exec
  have hb := B.bytes
  have hr := B.returns
  have hlocks := B.notSynchronized
  have hS : va_S A s.heap s.heap [] := va_S.rf
  have hl := lv_entry ([.int i, .int n, .null]) (n := 3) (Nat.le_of_ble_eq_true rfl)
  rw [lg_entry_eq]
  generalize (lg_sl ([.int i, .int n, .null]) ++ List.replicate (3 - (lg_sl ([.int i, .int n, .null])).length) Slot.unset).toArray = ls at hl ⊢
  have hl : lv_has ls 3 [(0, .int i), (1, .int n), (2, .null)] := hl
  refine lv_iload_n hx hb (show decode bPC 0 = .ok (.iload_n 0, 1) by decide +kernel) rfl (lv_at hl 0 rfl) ?_
  refine lv_if_lt (tgt := 9) hx hb (show decode bPC 1 = .ok (.ifCond .lt 8, 3) by decide +kernel) (by decide) (fun z => absurd z h1) (fun _ => ?_)
  refine lv_iload_n hx hb (show decode bPC 4 = .ok (.iload_n 0, 1) by decide +kernel) rfl (lv_at hl 0 rfl) ?_
  refine lv_iload_n hx hb (show decode bPC 5 = .ok (.iload_n 1, 1) by decide +kernel) rfl (lv_at hl 1 rfl) ?_
  refine lv_icmp_lt (tgt := 16) hx hb (show decode bPC 6 = .ok (.if_icmp .lt 10, 3) by decide +kernel) (by decide) (fun _ => ?_) (fun z => absurd h2 z)
  refine lv_iload_n hx hb (show decode bPC 16 = .ok (.iload_n 0, 1) by decide +kernel) rfl (lv_at hl 0 rfl) ?_
  exact W.iret (v := i) hx hb hr (fun t ht hW => ⟨⟨i, (), rfl, rfl, ht.trans hH⟩, hS.F ht⟩) hS.2.2 (show decode bPC 17 = .ok (.ireturn, 1) by decide +kernel)
theorem j_PC (l : Launch) {A : Nat → Prop} {Hh : Heap} {i n : Int32} {w : Value} (hw : w = .null ∨ ∃ q, w = .ref q) (h1 : ¬ i < 0) (h2 : i < n) : Met l jPC (.code jPC bPC 3 (some .int) :: xW) (jr 0 0) (va_Pc [.int i, .int n, w] (fun U => U.heap = Hh)) (va_Qi (fun r (_ : Unit) => r = i) (fun _ t => t.heap = Hh) A) 0 0 A := by
  rcases hw with rfl | ⟨q, rfl⟩
  · exact j_PCn l h1 h2
  · exact j_PCr l h1 h2
set_option maxHeartbeats 1000000 in
theorem j_SC (l : Launch) {A : Nat → Prop} {Hh : Heap} {a : Nat} {i n : Int32} (h1 : ¬ i < 0) (h2 : i < n) : Met l jSC (.code jSC bSC 2 none :: xW) (jr 1 22) (va_Pc [.int i, .int n] (fun U => xTx a A U U.heap ∧ U.heap = Hh)) (va_Qv (fun (_ : Unit) => True) (fun _ t => t.heap = Hh) A) 0 0 A := by
  refine Met.ofW (cc := bSC) (maxL := 2) (ret := none) (by decide) rfl ?_
  intro p e s m args below meth c s₁ B hml hv
  obtain ⟨rfl, hT, hH⟩ := hv
  have hx := B.exec
  have hb := B.bytes
  have hr := B.returns
  have hlocks := B.notSynchronized
  have hts0 := atoms_spec (ws := .code jSC bSC 2 none :: xW) B.pre
  have hts : ∀ w ∈ xW, w.before #[.int i, .int n] s = true := fun w hw => hts0 w (List.mem_cons_of_mem _ hw)
  have hown : s.vm.findClass "java/lang/String" = some m.cls := findClass_of_methodNamed B.named
  have hS : va_S A s.heap s.heap [] := va_S.rf
  obtain ⟨-, v, -, -, -, -, -, w, hw, hq⟩ := id hT
  have hl := lv_entry ([.int i, .int n]) (n := 2) (Nat.le_of_ble_eq_true rfl)
  rw [lg_entry_eq]
  generalize (lg_sl ([.int i, .int n]) ++ List.replicate (2 - (lg_sl ([.int i, .int n])).length) Slot.unset).toArray = ls at hl ⊢
  have hl : lv_has ls 2 [(0, .int i), (1, .int n)] := hl
  refine lv_iload_n hx hb (show decode bSC 0 = .ok (.iload_n 0, 1) by decide +kernel) rfl (lv_at hl 0 rfl) ?_
  refine lv_iload_n hx hb (show decode bSC 1 = .ok (.iload_n 1, 1) by decide +kernel) rfl (lv_at hl 1 rfl) ?_
  refine va_gets hx hb hq hS hown (hts _ (xw_i (46 + 983) (by decide +kernel) (by decide +kernel))) (fun _ z => z) (show decode bSC 2 = .ok (.getstatic 1053, 3) by decide +kernel) ?_
  refine va_calli (va_runS (As := [.int i, .int n, w]) (rest := []) ⟨hx, hb, hml, hown, hts⟩ (j_PC l (A := A) (Hh := Hh) hw h1 h2) ⟨⟨rfl, rfl, Nat.le_refl _, Nat.le_refl _, jpay hts jw_PC, List.mem_cons_self, hts _ jw_PC, hts _ (xw_i (46 + 26) (by decide +kernel) (by decide +kernel)), ⟨by decide, by decide⟩, (fun sig h => by cases h; rfl), hts _ (xw_i (46 + 985) (by decide +kernel) (by decide +kernel))⟩, hts _ (xw_i (46 + 986) (by decide +kernel) (by decide +kernel))⟩
    ⟨fun a U g mk h => ⟨h.1, h.2⟩, fun U hU hW => ⟨rfl, hU.trans hH⟩⟩ rfl rfl hl.1 rfl (show 2 * 0 + 0 ≤ 8 by decide) (show decode bSC 5 = .ok (.invokestatic 1059, 3) by decide +kernel) ⟨Nat.zero_le _, Nat.zero_le _⟩) hS (fun _ _ z => z) (fun _ z => z) (fun r u t H1 locs1 e1 _ _ hB _ _ hS1 => ?_)
  refine lv_pop hx hb (show decode bSC 8 = .ok (.pop, 1) by decide +kernel) rfl ?_
  exact W.vret hx hb hr (fun t2 ht hW => ⟨⟨(), rfl, trivial, ht.trans (e1.symm.trans hB)⟩, hS1.F ht⟩) hS1.2.2 (show decode bSC 9 = .ok (.return_, 1) by decide +kernel)
theorem j_ch : ∀ k, k < 4 → ((((([108, 101, 110, 116] : List Int32).getD k 0) &&& 255).toUInt32 % 65536).toInt32 = ([108, 101, 110, 116] : List Int32).getD k 0) ∧ narrow .char (.int (([108, 101, 110, 116] : List Int32).getD k 0)) = .int (([108, 101, 110, 116] : List Int32).getD k 0) := by
  intro k hk
  match k, hk with
  | 0, _ => exact ⟨by decide, by decide⟩
  | 1, _ => exact ⟨by decide, by decide⟩
  | 2, _ => exact ⟨by decide, by decide⟩
  | 3, _ => exact ⟨by decide, by decide⟩
theorem j_in {i : Int32} (h : vp_in i 4) : ¬ i < 0 ∧ i < 4 ∧ i.toNatClampNeg < 4 := by
  have h1 : ¬ i < 0 := fun z => h (Or.inl z)
  have h2 : i.toNatClampNeg < 4 := Nat.not_le.mp fun z => h (Or.inr z)
  refine ⟨h1, ?_, h2⟩
  rw [Int32.lt_iff_toInt_lt] at h1 ⊢
  have e : i.toNatClampNeg = i.toInt.toNat := rfl
  have z : (0 : Int32).toInt = 0 := rfl
  have f : (4 : Int32).toInt = 4 := rfl
  omega
set_option maxHeartbeats 1000000 in
theorem j_CA (l : Launch) {A : Nat → Prop} {Hh : Heap} {a b : Nat} {i : Int32} (h1 : vp_in i 4) : Met l jCA (.code jCA bCA 2 (some .char) :: xW) (jr 2 43) (va_Pc [.ref b, .int i] (fun U => (xTx a A U U.heap ∧ va_T .byte b 4 (fun j => .int (([108, 101, 110, 116] : List Int32).getD j 0)) A U U.heap) ∧ U.heap = Hh)) (va_Qi (fun r (_ : Unit) => r = ([108, 101, 110, 116] : List Int32).getD i.toNatClampNeg 0) (fun _ t => t.heap = Hh) A) 0 0 A := by
  refine Met.ofW (cc := bCA) (maxL := 2) (ret := some .char) (by decide) rfl ?_
  intro p e s m args below meth c s₁ B hml hv
  obtain ⟨rfl, ⟨hT, hV⟩, hH⟩ := hv
  obtain ⟨i1, i2, i3⟩ := j_in h1
  have hx := B.exec
  have hb := B.bytes
  have hr := B.returns
  have hlocks := B.notSynchronized
  have hts0 := atoms_spec (ws := .code jCA bCA 2 (some .char) :: xW) B.pre
  have hts : ∀ w ∈ xW, w.before #[.ref b, .int i] s = true := fun w hw => hts0 w (List.mem_cons_of_mem _ hw)
  have hown : s.vm.findClass "java/lang/StringLatin1" = some m.cls := findClass_of_methodNamed B.named
  have hS : va_S A s.heap s.heap [] := va_S.rf
  have hl := lv_entry ([.ref b, .int i]) (n := 2) (Nat.le_of_ble_eq_true rfl)
  rw [lg_entry_eq]
  generalize (lg_sl ([.ref b, .int i]) ++ List.replicate (2 - (lg_sl ([.ref b, .int i])).length) Slot.unset).toArray = ls at hl ⊢
  have hl : lv_has ls 2 [(0, .ref b), (1, .int i)] := hl
  refine lv_iload_n hx hb (show decode bCA 0 = .ok (.iload_n 1, 1) by decide +kernel) rfl (lv_at hl 1 rfl) ?_
  refine lv_aload_n hx hb (show decode bCA 1 = .ok (.aload_n 0, 1) by decide +kernel) rfl (lv_at hl 0 rfl) ?_
  refine va_tlen hx hb hV hS (v := 4) rfl (show decode bCA 2 = .ok (.arraylength, 1) by decide +kernel) ?_
  refine va_callv (va_runS (As := [.int i, .int 4]) (rest := []) ⟨hx, hb, hml, hown, hts⟩ (j_SC l (A := A) (Hh := Hh) (a := a) i1 i2) ⟨⟨rfl, rfl, Nat.le_refl _, Nat.le_refl _, jpay hts jw_SC, List.mem_cons_self, hts _ jw_SC, hts _ (xw_i (46 + 21) (by decide +kernel) (by decide +kernel)), ⟨by decide, by decide⟩, (fun sig h => by cases h; rfl), hts _ (xw_i (46 + 980) (by decide +kernel) (by decide +kernel))⟩, hts _ (xw_i (46 + 981) (by decide +kernel) (by decide +kernel))⟩
    ⟨fun a9 U g mk h => ⟨h.1, h.2.1.move (s := U) (U := U.calling g mk a9) (State.WarmedH.refl U) (fun _ _ _ => rfl), h.2.2⟩, fun U hU hW => ⟨rfl, by rw [hU]; exact hT.move hW (fun _ _ _ => rfl), hU.trans hH⟩⟩ rfl rfl hl.1 rfl (show 2 * 0 + 0 ≤ 8 by decide) (show decode bCA 3 = .ok (.invokestatic 9, 3) by decide +kernel) ⟨Nat.zero_le _, Nat.zero_le _⟩) hS (fun _ _ z => z) (fun _ z => z) (fun u t H1 locs1 e1 _ _ hB _ _ hS1 => ?_)
  have eH : H1 = s.heap := e1.symm.trans (hB.trans hH.symm)
  subst eH
  refine lv_aload_n hx hb (show decode bCA 6 = .ok (.aload_n 0, 1) by decide +kernel) rfl (lv_at hl 0 rfl) ?_
  refine lv_iload_n hx hb (show decode bCA 7 = .ok (.iload_n 1, 1) by decide +kernel) rfl (lv_at hl 1 rfl) ?_
  refine va_tb hx hb hV hS1 h1 rfl (show decode bCA 8 = .ok (.baload, 1) by decide +kernel) ?_
  refine lv_sipush (v := 255) hx hb (show decode bCA 9 = .ok (.sipush 255, 3) by decide +kernel) (by decide) ?_
  refine lv_iand hx hb (show decode bCA 12 = .ok (.iand, 1) by decide +kernel) ?_
  refine lv_i2c hx hb (show decode bCA 13 = .ok (.i2c, 1) by decide +kernel) (j_ch _ i3).1 ?_
  exact W.zret (v := ([108, 101, 110, 116] : List Int32).getD i.toNatClampNeg 0) (ty := .char) hx hb hr (j_ch _ i3).2 (fun t2 ht hW => ⟨⟨_, (), rfl, rfl, ht.trans hH⟩, hS1.F ht⟩) hS1.2.2 (show decode bCA 14 = .ok (.ireturn, 1) by decide +kernel)
set_option maxHeartbeats 1000000 in
theorem j_IL (l : Launch) {A : Nat → Prop} {Hh : Heap} {a : Nat} : Met l jIL (.code jIL bIL 1 (some .boolean) :: xW) (jr 0 0) (va_Pc [.ref a] (fun U => xTx a A U U.heap ∧ U.heap = Hh)) (va_Qi (fun r (_ : Unit) => r = 1) (fun _ t => t.heap = Hh) A) 0 0 A := by
  refine Met.ofW (cc := bIL) (maxL := 1) (ret := some .boolean) (by decide) rfl ?_
  intro p e s m args below meth c s₁ B hml hv
  obtain ⟨rfl, hT, hH⟩ := hv
  have hx := B.exec
  have hb := B.bytes
  have hr := B.returns
  have hlocks := B.notSynchronized
  have hts0 := atoms_spec (ws := .code jIL bIL 1 (some .boolean) :: xW) B.pre
  have hts : ∀ w ∈ xW, w.before #[.ref a] s = true := fun w hw => hts0 w (List.mem_cons_of_mem _ hw)
  have hown : s.vm.findClass "java/lang/String" = some m.cls := findClass_of_methodNamed B.named
  have hS : va_S A s.heap s.heap [] := va_S.rf
  obtain ⟨-, v, -, hC, -, -, hZ, -⟩ := id hT
  have hl := lv_entry ([.ref a]) (n := 1) (Nat.le_of_ble_eq_true rfl)
  rw [lg_entry_eq]
  generalize (lg_sl ([.ref a]) ++ List.replicate (1 - (lg_sl ([.ref a])).length) Slot.unset).toArray = ls at hl ⊢
  have hl : lv_has ls 1 [(0, .ref a)] := hl
  refine va_gets hx hb hZ hS hown (hts _ (xw_i (46 + 975) (by decide +kernel) (by decide +kernel))) (fun _ z => z) (show decode bIL 0 = .ok (.getstatic 38, 3) by decide +kernel) ?_
  refine lv_if_eq (tgt := 17) hx hb (show decode bIL 3 = .ok (.ifCond .eq 14, 3) by decide +kernel) (by decide) (fun z => absurd z (by decide)) (fun _ => ?_)
  refine lv_aload_n hx hb (show decode bIL 6 = .ok (.aload_n 0, 1) by decide +kernel) rfl (lv_at hl 0 rfl) ?_
  refine vk_getf hx hb hC hS hown (hts _ (xw_i (46 + 1265) (by decide +kernel) (by decide +kernel))) (fun _ z => z) (show decode bIL 7 = .ok (.getfield 15, 3) by decide +kernel) ?_
  refine lv_if_ne (tgt := 17) hx hb (show decode bIL 10 = .ok (.ifCond .ne 7, 3) by decide +kernel) (by decide) (fun z => absurd rfl z) (fun _ => ?_)
  refine lv_iconst (v := 1) hx hb (show decode bIL 13 = .ok (.iconst 1, 1) by decide +kernel) (by decide) ?_
  refine lv_goto (tgt := 18) hx hb (show decode bIL 14 = .ok (.goto 4, 3) by decide +kernel) (by decide) ?_
  exact W.zret (v := 1) (ty := .boolean) hx hb hr (by decide) (fun t2 ht hW => ⟨⟨1, (), rfl, rfl, ht.trans hH⟩, hS.F ht⟩) hS.2.2 (show decode bIL 18 = .ok (.ireturn, 1) by decide +kernel)
set_option maxHeartbeats 1000000 in
theorem j_CH (l : Launch) {A : Nat → Prop} {Hh : Heap} {a : Nat} {i : Int32} (h1 : vp_in i 4) : Met l xChN (.code xChN bCH 2 (some .char) :: xW) (jr 3 64) (va_Pc [.ref a, .int i] (fun U => xTx a A U U.heap ∧ U.heap = Hh)) (va_Qi (fun r (_ : Unit) => r = ([108, 101, 110, 116] : List Int32).getD i.toNatClampNeg 0) (fun _ t => t.heap = Hh) A) 0 0 A := by
  refine Met.ofW (cc := bCH) (maxL := 2) (ret := some .char) (by decide) rfl ?_
  intro p e s m args below meth c s₁ B hml hv
  obtain ⟨rfl, hT, hH⟩ := hv
  obtain ⟨i1, i2, i3⟩ := j_in h1
  have hx := B.exec
  have hb := B.bytes
  have hr := B.returns
  have hlocks := B.notSynchronized
  have hts0 := atoms_spec (ws := .code xChN bCH 2 (some .char) :: xW) B.pre
  have hts : ∀ w ∈ xW, w.before #[.ref a, .int i] s = true := fun w hw => hts0 w (List.mem_cons_of_mem _ hw)
  have hown : s.vm.findClass "java/lang/String" = some m.cls := findClass_of_methodNamed B.named
  have hS : va_S A s.heap s.heap [] := va_S.rf
  obtain ⟨-, v, hO, hC, hVF, hV, hZ, -⟩ := id hT
  have hl := lv_entry ([.ref a, .int i]) (n := 2) (Nat.le_of_ble_eq_true rfl)
  rw [lg_entry_eq]
  generalize (lg_sl ([.ref a, .int i]) ++ List.replicate (2 - (lg_sl ([.ref a, .int i])).length) Slot.unset).toArray = ls at hl ⊢
  have hl : lv_has ls 2 [(0, .ref a), (1, .int i)] := hl
  have hrecv : ∃ cell : Cell, s.heap[a]? = some cell ∧ cell.vm.isStatics = false ∧ s.vm.findClass "java/lang/String" = some cell.cls := by
    obtain ⟨cell, g1, g2, g3, -⟩ := hO
    exact ⟨cell, g1, g2, g3⟩
  refine lv_aload_n hx hb (show decode bCH 0 = .ok (.aload_n 0, 1) by decide +kernel) rfl (lv_at hl 0 rfl) ?_
  refine va_calli (va_runV (C := "java/lang/String") (b := a) (As := []) (rest := []) ⟨hx, hb, hml, hown, hts⟩ (j_IL l (A := A) (Hh := Hh) (a := a)) ⟨⟨rfl, rfl, by decide, by decide, jpay hts jw_IL, List.mem_cons_self, hts _ jw_IL, hts _ (xw_i (46 + 21) (by decide +kernel) (by decide +kernel)), ⟨by decide, by decide⟩, (fun sig h => by cases h; rfl), hts _ (xw_i (46 + 971) (by decide +kernel) (by decide +kernel))⟩, hts _ (xw_i (46 + 972) (by decide +kernel) (by decide +kernel)), hts _ (xw_i (46 + 973) (by decide +kernel) (by decide +kernel))⟩
    ⟨fun a9 U g mk h => ⟨h.1, h.2.1.move (s := U) (U := U.calling g mk a9) (State.WarmedH.refl U) (fun _ _ _ => rfl), h.2.2⟩, hrecv, fun U hU hW => ⟨rfl, by rw [hU]; exact hT.move hW (fun _ _ _ => rfl), hU.trans hH⟩⟩ rfl rfl hl.1 rfl (show 2 * 0 + 0 ≤ 8 by decide) (show decode bCH 1 = .ok (.invokevirtual 492, 3) by decide +kernel) ⟨Nat.zero_le _, Nat.zero_le _⟩) hS (fun _ _ z => z) (fun _ z => z) (fun r u t H1 locs1 e1 _ hp hB _ _ hS1 => ?_)
  have eH : H1 = s.heap := e1.symm.trans (hB.trans hH.symm)
  subst eH
  have hp : r = 1 := hp
  subst hp
  refine lv_if_eq (tgt := 16) hx hb (show decode bCH 4 = .ok (.ifCond .eq 12, 3) by decide +kernel) (by decide) (fun z => absurd z (by decide)) (fun _ => ?_)
  refine lv_aload_n hx hb (show decode bCH 7 = .ok (.aload_n 0, 1) by decide +kernel) rfl (lv_at hl 0 rfl) ?_
  refine vk_getf hx hb hVF hS1 hown (hts _ (xw_i (46 + 1266) (by decide +kernel) (by decide +kernel))) (fun _ z => z) (show decode bCH 8 = .ok (.getfield 9, 3) by decide +kernel) ?_
  refine lv_iload_n hx hb (show decode bCH 11 = .ok (.iload_n 1, 1) by decide +kernel) rfl (lv_at hl 1 rfl) ?_
  refine va_calli (va_runS (As := [.ref v, .int i]) (rest := []) ⟨hx, hb, hml, hown, hts⟩ (j_CA l (A := A) (Hh := Hh) (a := a) (b := v) h1) ⟨⟨rfl, rfl, Nat.le_refl _, Nat.le_refl _, jpay hts jw_CA, List.mem_cons_self, hts _ jw_CA, hts _ (xw_i (46 + 25) (by decide +kernel) (by decide +kernel)), ⟨by decide, by decide⟩, (fun sig h => by cases h; rfl), hts _ (xw_i (46 + 977) (by decide +kernel) (by decide +kernel))⟩, hts _ (xw_i (46 + 978) (by decide +kernel) (by decide +kernel))⟩
    ⟨fun a9 U g mk h => ⟨h.1, ⟨h.2.1.1.move (s := U) (U := U.calling g mk a9) (State.WarmedH.refl U) (fun _ _ _ => rfl), (va_T.moved (u := U) (U := U.calling g mk a9) (Vm.Alike.refl U.vm) h.2.1.2)⟩, h.2.2⟩, fun U hU hW => ⟨rfl, by rw [hU]; exact ⟨hT.move hW (fun _ _ _ => rfl), va_T.moved hW.alike hV⟩, hU.trans hH⟩⟩ rfl rfl hl.1 rfl (show 2 * 0 + 0 ≤ 8 by decide) (show decode bCH 12 = .ok (.invokestatic 495, 3) by decide +kernel) ⟨Nat.zero_le _, Nat.zero_le _⟩) hS1 (fun _ _ z => z) (fun _ z => z) (fun r2 u2 t2 H2 locs2 e2 _ hp2 hB2 _ _ hS2 => ?_)
  have hp2 : r2 = ([108, 101, 110, 116] : List Int32).getD i.toNatClampNeg 0 := hp2
  subst hp2
  exact W.zret (v := ([108, 101, 110, 116] : List Int32).getD i.toNatClampNeg 0) (ty := .char) hx hb hr (j_ch _ i3).2 (fun t3 ht hW => ⟨⟨_, (), rfl, rfl, ht.trans (e2.symm.trans hB2)⟩, hS2.F ht⟩) hS2.2.2 (show decode bCH 15 = .ok (.ireturn, 1) by decide +kernel)
set_option maxHeartbeats 1000000 in
theorem x_charAt {p : Program} {l : Launch} {e : Env} {R : Room} {s : State} {m : MethodId} {args : Array Value} {below : List Frame} {meth : Method} {c : Code} {H : Heap} {locs : List Loc} {cells slots : Nat} {Q : State → Prop} {ls : Array Slot} {A : Nat → Prop} {ρ : Nat → Nat} {b0 : Nat} {S : Nat × (Nat → Int32)} {i idx pc : Nat} {rest : List Value} {n : Int32}
    (hx : p.tables.exec = Jvm.exec) (hb : c.code = (xmd i).2.1) (hml : c.maxLocals = (xmd i).2.2.1) (hown : s.vm.findClass (xmd i).1.cls = some m.cls) (hts : ∀ w ∈ xW, w.before args s = true) (hZ : xZ ρ b0 S A s s.heap) (hRf : 8 ≤ R.frames) (hRl : 100 ≤ R.locals) (hfc : cells ≤ R.cells) (hfs : slots ≤ R.slots)
    (hlink : (Cond.methodLink (xmd i).1.cls idx xChN).before args s = true) (hS : va_S A s.heap H locs) (hsz : ls.size = (xmd i).2.2.1) (hsm : (rest.map fun v => v.category).sum ≤ 8) (hin : vp_in n 4) (hd : decode (xmd i).2.1 pc = .ok (.invokevirtual idx, 3))
    (k : ∀ locs1 : List Loc, va_S A s.heap H locs1 → W p l e R s m args below meth c H locs1 cells slots Q (F0 m (pc + 3) ls (.int (([108, 101, 110, 116] : List Int32).getD n.toNatClampNeg 0) :: rest))) : W p l e R s m args below meth c H locs cells slots Q (F0 m pc ls (.int n :: .ref (ρ 1000003) :: rest)) := by
  have hT : xTx (ρ 1000003) A s s.heap := hZ.2.2.2.2.2.2.2.2.2.2.2.1
  have hT1 := hT.move (State.WarmedH.refl s) (H1 := H) hS.2.1
  obtain ⟨-, v, hO, -⟩ := id hT1
  have hrecv : ∃ cell : Cell, H[ρ 1000003]? = some cell ∧ cell.vm.isStatics = false ∧ s.vm.findClass "java/lang/String" = some cell.cls := by
    obtain ⟨cell, g1, g2, g3, -⟩ := hO
    exact ⟨cell, g1, g2, g3⟩
  refine va_calli (va_runV (C := "java/lang/String") (b := ρ 1000003) (As := [.int n]) (rest := rest) ⟨hx, hb, hml, hown, hts⟩ (j_CH l (A := A) (Hh := H) (a := ρ 1000003) hin) ⟨⟨rfl, rfl, by show 3 + 1 ≤ _; omega, by show 8 + (2 + 11) + 64 ≤ _; omega, jpay hts jw_CH, List.mem_cons_self, hts _ jw_CH, hts _ (xw_i (46 + 21) (by decide +kernel) (by decide +kernel)), ⟨by decide, by decide⟩, (fun sig h => by cases h; rfl), hlink⟩, hts _ (xw_i (46 + 968) (by decide +kernel) (by decide +kernel)), hts _ (xw_i (46 + 969) (by decide +kernel) (by decide +kernel))⟩
    ⟨fun a9 U g mk h => ⟨h.1, h.2.1.move (s := U) (U := U.calling g mk a9) (State.WarmedH.refl U) (fun _ _ _ => rfl), h.2.2⟩, hrecv, fun U hU hW => ⟨rfl, by rw [hU]; exact hT.move hW hS.2.1, hU⟩⟩ rfl rfl hsz rfl (by show 2 * 0 + _ ≤ 8; omega) hd ⟨hfc, hfs⟩) hS (fun _ _ z => z) (fun _ z => z) (fun r u t H1 locs1 e1 _ hp hB _ _ hS1 => ?_)
  have eH : H1 = H := e1.symm.trans hB
  subst eH
  have hp : r = ([108, 101, 110, 116] : List Int32).getD n.toNatClampNeg 0 := hp
  subst hp
  exact k locs1 hS1

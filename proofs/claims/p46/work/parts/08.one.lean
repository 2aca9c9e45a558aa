/-! What holds of the machine's state where the small machine stands; a plain step of the one is a step of the other. -/
def xNest : List Cond := lw_tbl.filter xNw
def xXix : List Nat := [7, 7, 7, 13, 7, 7]
def xXrx (e : Nat) : ByteArray := bif Nat.beq e 3 then ⟨#[0x2a, 0x2b, 0xb7, 0x00, 0x0d, 0xb1]⟩ else Bundle.six
def xThr (e : Nat) : List Cond := (xo_atoms RX11 (xXic.getD e 0) (xExc.getD e "") (xXix.getD e 0) (xXrx e) ["java/lang/RuntimeException", "java/lang/Exception"]).filter vx_no
def xBd (e : Nat) : List Cond := (xThr e).filter (fun w => !goodWord w)
def xBk : Cond → Bool
  | .castable _ _ => true
  | .declares _ => true
  | _ => false
theorem lt6 {P : Nat → Prop} (h0 : P 0) (h1 : P 1) (h2 : P 2) (h3 : P 3) (h4 : P 4) (h5 : P 5) : ∀ e, e < 6 → P e := lt_s (lt_s (lt_s (lt_s (lt_s (lt_s lt_0 h0) h1) h2) h3) h4) h5
theorem xThr_in : ∀ e, e < 6 → ∀ w ∈ (xThr e).filter goodWord, w ∈ lw_tbl := lt6 (by decide +kernel) (by decide +kernel) (by decide +kernel) (by decide +kernel) (by decide +kernel) (by decide +kernel)
theorem xXrx_ok : ∀ e, e < 6 → decode (xXrx e) 0 = .ok (.aload_n 0, 1) ∧ decode (xXrx e) 1 = .ok (.aload_n 1, 1) ∧ decode (xXrx e) 2 = .ok (.invokespecial (xXix.getD e 0), 3) ∧ decode (xXrx e) 5 = .ok (.return_, 1) := lt6 (by decide +kernel) (by decide +kernel) (by decide +kernel) (by decide +kernel) (by decide +kernel) (by decide +kernel)
theorem xThr_good : ∀ e, e < 6 → ∀ w ∈ (xThr e).filter goodWord, w ∈ xW := fun e he w hw => List.mem_filter.mpr ⟨xThr_in e he w hw, (List.mem_filter.mp hw).2⟩
theorem xBd_in : ∀ e, e < 6 → ∀ w ∈ xBd e, w ∈ lw_tbl := lt6 (by decide +kernel) (by decide +kernel) (by decide +kernel) (by decide +kernel) (by decide +kernel) (by decide +kernel)
theorem xBd_kind : ∀ e, e < 6 → ∀ w ∈ xBd e, xBk w = true := lt6 (by decide +kernel) (by decide +kernel) (by decide +kernel) (by decide +kernel) (by decide +kernel) (by decide +kernel)
theorem xBd_cast : ∀ e, e < 6 → Cond.castable (xExc.getD e "") (xExc.getD e "") ∈ xBd e := lt6 (by decide +kernel) (by decide +kernel) (by decide +kernel) (by decide +kernel) (by decide +kernel) (by decide +kernel)
theorem xThr_ot : ∀ e, e < 6 → ∀ w ∈ Cond.initialized (xExc.getD e "") :: xThr e, vx_ot w = true := lt6 (by decide +kernel) (by decide +kernel) (by decide +kernel) (by decide +kernel) (by decide +kernel) (by decide +kernel)
theorem xThr_ini : ∀ e, e < 6 → Cond.initialized (xExc.getD e "") ∈ xW := lt6 (by decide +kernel) (by decide +kernel) (by decide +kernel) (by decide +kernel) (by decide +kernel) (by decide +kernel)
theorem xThr_fit : ∀ e, e < 6 → Bundle.fit (xExc.getD e "") = true := lt6 (by decide +kernel) (by decide +kernel) (by decide +kernel) (by decide +kernel) (by decide +kernel) (by decide +kernel)
theorem xBk_warm {w : Cond} (hk : xBk w = true) {s U : State} (hW : s.WarmedH U.vm) (h : va_Nw w s) : va_Nw w U := by
  cases w <;> first | exact va_Nw.warmC hW h | exact va_Nw.warmD hW h | cases hk
/-- the one text, and what charAt reads -/
def xTx (a : Nat) (A : Nat → Prop) (U : State) (H : Heap) : Prop :=
  vk_R RL 164 "lent" a U ∧ ∃ v : Nat, va_O "java/lang/String" a A U H ∧ va_OF "java/lang/String" "coder" "B" (.int 0) a A U H ∧ va_OF "java/lang/String" "value" "[B" (.ref v) a A U H ∧ va_T .byte v 4 (fun j => .int (([108, 101, 110, 116] : List Int32).getD j 0)) A U H ∧
    va_Z "java/lang/String" "COMPACT_STRINGS" "Z" (.int 1) A U H ∧ ∃ w : Value, (w = .null ∨ ∃ q, w = .ref q) ∧ va_Z "jdk/internal/util/Preconditions" "SIOOBE_FORMATTER" "Ljava/util/function/BiFunction;" w A U H
theorem xTx.move {a : Nat} {A : Nat → Prop} {s U : State} {H H1 : Heap} (h : xTx a A s H) (hW : s.WarmedH U.vm) (hq : ∀ a : Nat, a < H.size → ¬ A a → H1[a]? = H[a]?) : xTx a A U H1 := by
  obtain ⟨h0, v, h1, h2, h3, h4, h5, w, hw, h6⟩ := h
  have hv := hW.alike
  exact ⟨vk_R.warm hW h0, v, (va_O.moved hv h1).kept hq, (va_OF.moved hv h2).kept hq, (va_OF.moved hv h3).kept hq, (va_T.moved hv h4).kept hq, (h5.moved hv).kept hq, w, hw, (h6.moved hv).kept hq⟩
def xZ (ρ : Nat → Nat) (b0 : Nat) (S : Nat × (Nat → Int32)) (A : Nat → Prop) (U : State) (H : Heap) : Prop :=
  va_Z "CheckmarkOffice" "SCHEMES" "[C" (.ref (ρ 1000000)) A U H ∧ va_Z "CheckmarkOffice$Schemes" "CHANGED" "[I" (.ref (ρ 1000001)) A U H ∧
  va_T .char (ρ 1000000) 4 (fun k => .int (([108, 101, 110, 116] : List Int32).getD k 0)) A U H ∧
  va_T .int (ρ 1000001) 10 (fun k => .int (([1, 5, 7, 6, 2, 8, 3, 0, 9, 4] : List Int32).getD k 0)) A U H ∧
  va_T .int (ρ 1000002) S.1 (fun k => .int (S.2 k)) A U H ∧
  vx_Zq Bundle.tN "UNASSIGNED_STACK" Bundle.steD A U H ∧ vx_Zq Bundle.tN "SUPPRESSED_SENTINEL" Bundle.listD A U H ∧
  (∀ w ∈ xNest, va_Nw w U) ∧ (∀ (k : Nat) (tx : String), Cond.stringRef RX11 k tx ∈ lw_tbl → ∃ sa, vk_R RX11 k tx sa U) ∧
  (∀ e, e < 6 → ∀ w ∈ xBd e, va_Nw w U) ∧ (∀ e f, e < 6 → f < 6 → f ≠ 1 → e ≠ f → va_Nc (xExc.getD e "") (xExc.getD f "") U) ∧ xTx (ρ 1000003) A U H ∧ b0 ≤ H.size
theorem xNest_warm {w : Cond} (hw : w ∈ xNest) {s U : State} (hW : s.WarmedH U.vm) (h : va_Nw w s) : va_Nw w U := by
  have h1 := (List.mem_filter.mp hw).2
  cases w <;> first | exact va_Nw.warmM hW h | exact va_Nw.warmF hW h | cases h1
theorem xZ.move {ρ : Nat → Nat} {b0 : Nat} {S : Nat × (Nat → Int32)} {A : Nat → Prop} {s U : State} {H H1 : Heap} (hW : s.WarmedH U.vm) (hz : H.size ≤ H1.size) (hq : ∀ a : Nat, a < H.size → ¬ A a → H1[a]? = H[a]?) (h : xZ ρ b0 S A s H) : xZ ρ b0 S A U H1 := by
  obtain ⟨h1, h2, h3, h4, h5, h6, h7, h8, h9, h10, h11, h13, h12⟩ := h
  have hv := hW.alike
  refine ⟨(h1.moved hv).kept hq, (h2.moved hv).kept hq, (h3.moved hv).kept hq, (h4.moved hv).kept hq, (h5.moved hv).kept hq, (h6.moved hv).kept hq, (h7.moved hv).kept hq, fun w hw => xNest_warm hw hW (h8 w hw), fun k tx hk => ?_, fun e he w hw => xBk_warm (xBd_kind e he w hw) hW (h10 e he w hw), fun e f he hf h1 hne => (h11 e f he hf h1 hne).moved hv, h13.move hW hq, Nat.le_trans h12 hz⟩
  obtain ⟨sa, h⟩ := h9 k tx hk
  exact ⟨sa, vk_R.warm hW h⟩
def xDy (ρ : Nat → Nat) (dA : Nat → ClassId) (D : va_G) (A : Nat → Prop) (M : xM) (H : Heap) : Prop :=
  (∀ (k : Nat) (c : xE), M.1[k]? = some c → xlive c = true → va_at D xCl (ρ k, xc ρ dA c) H ∧ A (ρ k)) ∧ M.1.length ≤ M.2.2.1 ∧ H.size = ρ M.2.2.1
theorem xCl_facts : ∀ (ci : Nat) (q : vw_C), xCl[ci]? = some q → (∀ w ∈ u_ws q.1 q.2.1 q.2.2, w ∈ xW) ∧ (∀ k, k < q.2.2 → parseFieldDescriptor (q.2.1 k).2.2.1 = some (xty ci k)) ∧ (∀ a, a < q.2.2 → ∀ b, b < q.2.2 → a ≠ b → (q.2.1 a).2.1 ≠ (q.2.1 b).2.1) ∧ Cond.instantiable q.1 q.2.2 ∈ xW ∧ Cond.initialized q.1 ∈ xW ∧ xnf ci = q.2.2 := by
  intro ci q h
  match ci, h with
  | 0, h => cases h; exact ⟨by decide +kernel, tyX0_ok, nmX0, by decide +kernel, by decide +kernel, rfl⟩
  | 1, h => cases h; exact ⟨by decide +kernel, tyX1_ok, nmX1, by decide +kernel, by decide +kernel, rfl⟩
  | 2, h => cases h; exact ⟨by decide +kernel, tyX3_ok, nmX3, by decide +kernel, by decide +kernel, rfl⟩
  | 3, h => cases h; exact ⟨by decide +kernel, tyX4_ok, nmX4, by decide +kernel, by decide +kernel, rfl⟩
  | 4, h => cases h; exact ⟨by decide +kernel, tyX5_ok, nmX5, by decide +kernel, by decide +kernel, rfl⟩
  | 5, h => cases h; exact ⟨by decide +kernel, tyX6_ok, nmX6, by decide +kernel, by decide +kernel, rfl⟩
  | 6, h => cases h; exact ⟨by decide +kernel, tyX7_ok, nmX7, by decide +kernel, by decide +kernel, rfl⟩
  | 7, h => cases h; exact ⟨by decide +kernel, tyX8_ok, nmX8, by decide +kernel, by decide +kernel, rfl⟩
  | 8, h => cases h; exact ⟨by decide +kernel, tyX9_ok, nmX9, by decide +kernel, by decide +kernel, rfl⟩
  | 9, h => cases h; exact ⟨by decide +kernel, tyX10_ok, nmX10, by decide +kernel, by decide +kernel, rfl⟩
  | 10, h => cases h; exact ⟨by decide +kernel, tyX11_ok, nmX11, by decide +kernel, by decide +kernel, rfl⟩
  | 11, h => cases h; exact ⟨by decide +kernel, tyL_ok, nmL, by decide +kernel, by decide +kernel, rfl⟩
  | n + 12, h => cases h

/-! What holds between the office and the reference ahead of each call. -/
/-- the row of bytes -/
def IB (c1_1 : Int32) (a2 : Nat → Int32) (c48_17 : Int32) (a49 : Nat → Int32) : Prop := ∃ (n : Nat) (B : Nat → Nat), n ≤ 64 ∧ c1_1 = nI n ∧ c48_17 = nI n ∧ ∀ k, k < n → B k < 256 ∧ a2 k = nI (B k) ∧ a49 k = nI (B k)
/-- what is kept to go back to -/
def IP (c3_1 c3_2 c4_0 : Int32) (a5 a6 : Nat → Int32) (c48_20 : Int32) (a52 : Nat → Int32) : Prop := ∃ (p q : Nat), p < 10 ∧ q ≤ 10 ∧ c3_1 = nI p ∧ c3_2 = nI q ∧ c4_0 = nI 64 ∧ c48_20 = nI q ∧ ∀ j, j < q → ∃ (n : Nat) (B : Nat → Nat), n ≤ 64 ∧ a6 ((p + 10 - q + j) % 10) = nI n ∧ a52 (65 * j) = nI n ∧ ∀ k, k < n → B k < 256 ∧ a5 (64 * ((p + 10 - q + j) % 10) + k) = nI (B k) ∧ a52 (65 * j + 1 + k) = nI (B k)
/-- the kind that is told -/
def IK (c8_0 c8_1 c8_2 c8_3 c8_4 c8_5 c48_24 c48_25 : Int32) (c48_26 c48_27 c48_28 : Int64) : Prop := ∃ w p s e m : Nat, 1 ≤ w ∧ w ≤ 32 ∧ p < 2 ^ w ∧ p % 2 = 1 ∧ s < 2 ^ w ∧ e < 2 ^ w ∧ m < 4 ∧ c8_0 = nI w ∧ c8_1 = nI p ∧ c8_2 = nI s ∧ c8_3 = nI e ∧ c8_4 = nI (m % 2) ∧ c8_5 = nI (m / 2) ∧ c48_24 = nI w ∧ c48_25 = nI m ∧ c48_26 = lN p ∧ c48_27 = lN s ∧ c48_28 = lN e
/-- the kind that is there at first -/
def I7 (c7_0 c7_1 c7_2 c7_3 c7_4 c7_5 : Int32) : Prop := c7_0 = 32 ∧ c7_1 = 517762881 ∧ c7_2 = -1 ∧ c7_3 = -1 ∧ c7_4 = 1 ∧ c7_5 = 1
/-- the shelves: a number below 2 to the power of 96 each -/
def ISh (a10 a11 : Nat → Int64) (a53 : Nat → Int32) : Prop := ∀ s, s < 8 → ∃ P : Nat, P < 2 ^ 96 ∧ a10 s = lN (P % 2 ^ 64) ∧ a11 s = lN (P / 2 ^ 64) ∧ ∀ k, k < 96 → a53 (96 * s + k) = nI (P / 2 ^ k % 2)
/-- the typed digits -/
def IDg (c17_1 : Int32) (a18 : Nat → Int32) (c48_21 : Int32) (a57 : Nat → Int32) : Prop := ∃ (n : Nat) (D : Nat → Nat), n ≤ 18 ∧ c17_1 = nI n ∧ c48_21 = nI n ∧ ∀ k, k < n → D k < 10 ∧ a18 k = nI (D k) ∧ a57 k = nI (D k)
/-- the wares -/
def IW (c23_4 c24_0 : Int32) (a25 a26 : Nat → Int32) (c48_22 : Int32) (a58 : Nat → Int32) : Prop := ∃ n : Nat, n ≤ 20 ∧ c23_4 = nI n ∧ c24_0 = nI 9 ∧ c48_22 = nI n ∧ ∀ j, j < n → ∃ (m : Nat) (D : Nat → Nat), 1 ≤ m ∧ m ≤ 9 ∧ a26 j = nI m ∧ a58 (10 * j) = nI m ∧ ∀ k, k < m → D k < 10 ∧ a25 (9 * j + k) = nI (D k) ∧ a58 (10 * j + 1 + k) = nI (D k)
/-- the digits changed, as often as the place tells -/
def ICo (a22 : Nat → Int32) : Prop := ∀ k, k < 190 → a22 k = nI (sgN (k / 10) (k % 10))
/-! The heap's shape; what is read off it. -/
def rI (H : List xE) (a k : Nat) : Int32 := match H[a]? with
  | some (.inr (_, fs)) => (match fs[k]? with | some (.int v) => v | _ => 0)
  | _ => 0
def rL (H : List xE) (a k : Nat) : Int64 := match H[a]? with
  | some (.inr (_, fs)) => (match fs[k]? with | some (.long v) => v | _ => 0)
  | _ => 0
def rA (H : List xE) (a : Nat) : Nat → Int32 := match H[a]? with
  | some (.inl (_, _, .inl f)) => f
  | _ => fun _ => 0
def rB (H : List xE) (a : Nat) : Nat → Int64 := match H[a]? with
  | some (.inl (_, _, .inr (.inl f))) => f
  | _ => fun _ => 0
theorem rI_of {H : List xE} {a k ci : Nat} {fs : List Value} {v : Int32} (h : H[a]? = some (.inr (ci, fs))) (hv : fs[k]? = some (.int v)) : rI H a k = v := by simp only [rI, h, hv]
theorem rL_of {H : List xE} {a k ci : Nat} {fs : List Value} {v : Int64} (h : H[a]? = some (.inr (ci, fs))) (hv : fs[k]? = some (.long v)) : rL H a k = v := by simp only [rL, h, hv]
theorem rA_of {H : List xE} {a t n : Nat} {f : Nat → Int32} (h : H[a]? = some (.inl (t, n, .inl f))) : rA H a = f := by simp only [rA, h]
theorem rB_of {H : List xE} {a t n : Nat} {f : Nat → Int64} (h : H[a]? = some (.inl (t, n, .inr (.inl f)))) : rB H a = f := by simp only [rB, h]

def Shp (H : List xE) : Prop := H[0]? = some (oO) ∧ H[1]? = some (.inr (4, [.ref 2, .int (rI H 1 1)])) ∧ H[2]? = some (.inl (0, 64, .inl (rA H 2))) ∧ H[3]? = some (.inr (2, [.ref 4, .int (rI H 3 1), .int (rI H 3 2)])) ∧ H[4]? = some (.inr (7, [.int (rI H 4 0), .ref 5, .ref 6])) ∧ H[5]? = some (.inl (0, 640, .inl (rA H 5))) ∧ H[6]? = some (.inl (0, 10, .inl (rA H 6))) ∧ H[7]? = some (.inr (1, [.int (rI H 7 0), .int (rI H 7 1), .int (rI H 7 2), .int (rI H 7 3), .int (rI H 7 4), .int (rI H 7 5)])) ∧ H[8]? = some (.inr (1, [.int (rI H 8 0), .int (rI H 8 1), .int (rI H 8 2), .int (rI H 8 3), .int (rI H 8 4), .int (rI H 8 5)])) ∧ H[9]? = some (.inr (1, [.int (rI H 9 0), .int (rI H 9 1), .int (rI H 9 2), .int (rI H 9 3), .int (rI H 9 4), .int (rI H 9 5)])) ∧ H[10]? = some (.inl (1, 8, .inr (.inl (rB H 10)))) ∧ H[11]? = some (.inl (1, 8, .inr (.inl (rB H 11)))) ∧ H[12]? = some (.inr (3, [.long (rL H 12 0), .long (rL H 12 1)])) ∧ H[13]? = some (.inr (3, [.long (rL H 13 0), .long (rL H 13 1)])) ∧ H[14]? = some (.inr (3, [.long (rL H 14 0), .long (rL H 14 1)])) ∧ H[15]? = some (.inr (6, [.ref 16])) ∧ H[16]? = some (.inl (0, 48, .inl (rA H 16))) ∧ H[17]? = some (.inr (4, [.ref 18, .int (rI H 17 1)])) ∧ H[18]? = some (.inl (0, 18, .inl (rA H 18))) ∧ H[19]? = some (.inr (5, [.ref 20, .ref 22])) ∧ H[20]? = some (.inr (4, [.ref 21, .int (rI H 20 1)])) ∧ H[21]? = some (.inl (0, 18, .inl (rA H 21))) ∧ H[22]? = some (.inl (0, 190, .inl (rA H 22))) ∧ H[23]? = some (.inr (9, [.ref 24, .ref 27, .ref 29, .ref 31, .int (rI H 23 4)])) ∧ H[24]? = some (.inr (7, [.int (rI H 24 0), .ref 25, .ref 26])) ∧ H[25]? = some (.inl (0, 180, .inl (rA H 25))) ∧ H[26]? = some (.inl (0, 20, .inl (rA H 26))) ∧ H[27]? = some (.inr (4, [.ref 28, .int (rI H 27 1)])) ∧ H[28]? = some (.inl (0, 9, .inl (rA H 28))) ∧ H[29]? = some (.inr (4, [.ref 30, .int (rI H 29 1)])) ∧ H[30]? = some (.inl (0, 9, .inl (rA H 30))) ∧ H[31]? = some (.inr (4, [.ref 32, .int (rI H 31 1)])) ∧ H[32]? = some (.inl (0, 9, .inl (rA H 32))) ∧ H[33]? = some (.inr (4, [.ref 34, .int (rI H 33 1)])) ∧ H[34]? = some (.inl (0, 65, .inl (rA H 34))) ∧ H[35]? = some (.inr (0, [.ref 36, .ref 38, .ref 39, .int (rI H 35 3)])) ∧ H[36]? = some (.inr (4, [.ref 37, .int (rI H 36 1)])) ∧ H[37]? = some (.inl (0, 65, .inl (rA H 37))) ∧ H[38]? = some (.inl (0, 65, .inl (rA H 38))) ∧ H[39]? = some (.inl (2, 65, .inl (rA H 39))) ∧ H[40]? = some (.inr (0, [.ref 41, .ref 43, .ref 44, .int (rI H 40 3)])) ∧ H[41]? = some (.inr (4, [.ref 42, .int (rI H 41 1)])) ∧ H[42]? = some (.inl (0, 65, .inl (rA H 42))) ∧ H[43]? = some (.inl (0, 65, .inl (rA H 43))) ∧ H[44]? = some (.inl (2, 65, .inl (rA H 44))) ∧ H[45]? = some (.inr (8, [.ref 46, .ref 47, .int (rI H 45 2)])) ∧ H[46]? = some (.inl (1, 80, .inr (.inl (rB H 46)))) ∧ H[47]? = some (.inl (0, 5, .inl (rA H 47))) ∧ H[48]? = some (oM (rI H 48 17) (rI H 48 18) (rI H 48 19) (rI H 48 20) (rI H 48 21) (rI H 48 22) (rI H 48 23) (rI H 48 24) (rI H 48 25) (rL H 48 26) (rL H 48 27) (rL H 48 28)) ∧ H[49]? = some (.inl (0, 64, .inl (rA H 49))) ∧ H[50]? = some (.inl (0, 80, .inl (rA H 50))) ∧ H[51]? = some (.inl (0, 80, .inl (rA H 51))) ∧ H[52]? = some (.inl (0, 650, .inl (rA H 52))) ∧ H[53]? = some (.inl (0, 768, .inl (rA H 53))) ∧ H[54]? = some (.inl (0, 192, .inl (rA H 54))) ∧ H[55]? = some (.inl (0, 192, .inl (rA H 55))) ∧ H[56]? = some (.inl (0, 192, .inl (rA H 56))) ∧ H[57]? = some (.inl (0, 18, .inl (rA H 57))) ∧ H[58]? = some (.inl (0, 200, .inl (rA H 58))) ∧ H[59]? = some (.inl (0, 80, .inl (rA H 59))) ∧ H[60]? = some (.inl (0, 80, .inl (rA H 60))) ∧ H[61]? = some (.inl (0, 80, .inl (rA H 61))) ∧ H[62]? = some (.inl (1, 48, .inr (.inl (rB H 62)))) ∧ H[63]? = some (.inl (1, 32, .inr (.inl (rB H 63)))) ∧ H[64]? = some (.inl (1, 32, .inr (.inl (rB H 64)))) ∧ H[65]? = some (.inl (1, 32, .inr (.inl (rB H 65)))) ∧ H[66]? = some (.inl (1, 1, .inr (.inl (rB H 66)))) ∧ H[1000000]? = none ∧ H[1000002]? = none
theorem sh_0 {H : List xE} (h : Shp H) : H[0]? = some (oO) := h.1
theorem sh_1 {H : List xE} (h : Shp H) : H[1]? = some (.inr (4, [.ref 2, .int (rI H 1 1)])) := h.2.1
theorem sh_2 {H : List xE} (h : Shp H) : H[2]? = some (.inl (0, 64, .inl (rA H 2))) := h.2.2.1
theorem sh_3 {H : List xE} (h : Shp H) : H[3]? = some (.inr (2, [.ref 4, .int (rI H 3 1), .int (rI H 3 2)])) := h.2.2.2.1
theorem sh_4 {H : List xE} (h : Shp H) : H[4]? = some (.inr (7, [.int (rI H 4 0), .ref 5, .ref 6])) := h.2.2.2.2.1
theorem sh_5 {H : List xE} (h : Shp H) : H[5]? = some (.inl (0, 640, .inl (rA H 5))) := h.2.2.2.2.2.1
theorem sh_6 {H : List xE} (h : Shp H) : H[6]? = some (.inl (0, 10, .inl (rA H 6))) := h.2.2.2.2.2.2.1
theorem sh_7 {H : List xE} (h : Shp H) : H[7]? = some (.inr (1, [.int (rI H 7 0), .int (rI H 7 1), .int (rI H 7 2), .int (rI H 7 3), .int (rI H 7 4), .int (rI H 7 5)])) := h.2.2.2.2.2.2.2.1
theorem sh_8 {H : List xE} (h : Shp H) : H[8]? = some (.inr (1, [.int (rI H 8 0), .int (rI H 8 1), .int (rI H 8 2), .int (rI H 8 3), .int (rI H 8 4), .int (rI H 8 5)])) := h.2.2.2.2.2.2.2.2.1
theorem sh_9 {H : List xE} (h : Shp H) : H[9]? = some (.inr (1, [.int (rI H 9 0), .int (rI H 9 1), .int (rI H 9 2), .int (rI H 9 3), .int (rI H 9 4), .int (rI H 9 5)])) := h.2.2.2.2.2.2.2.2.2.1
theorem sh_10 {H : List xE} (h : Shp H) : H[10]? = some (.inl (1, 8, .inr (.inl (rB H 10)))) := h.2.2.2.2.2.2.2.2.2.2.1
theorem sh_11 {H : List xE} (h : Shp H) : H[11]? = some (.inl (1, 8, .inr (.inl (rB H 11)))) := h.2.2.2.2.2.2.2.2.2.2.2.1
theorem sh_12 {H : List xE} (h : Shp H) : H[12]? = some (.inr (3, [.long (rL H 12 0), .long (rL H 12 1)])) := h.2.2.2.2.2.2.2.2.2.2.2.2.1
theorem sh_13 {H : List xE} (h : Shp H) : H[13]? = some (.inr (3, [.long (rL H 13 0), .long (rL H 13 1)])) := h.2.2.2.2.2.2.2.2.2.2.2.2.2.1
theorem sh_14 {H : List xE} (h : Shp H) : H[14]? = some (.inr (3, [.long (rL H 14 0), .long (rL H 14 1)])) := h.2.2.2.2.2.2.2.2.2.2.2.2.2.2.1
theorem sh_15 {H : List xE} (h : Shp H) : H[15]? = some (.inr (6, [.ref 16])) := h.2.2.2.2.2.2.2.2.2.2.2.2.2.2.2.1
theorem sh_16 {H : List xE} (h : Shp H) : H[16]? = some (.inl (0, 48, .inl (rA H 16))) := h.2.2.2.2.2.2.2.2.2.2.2.2.2.2.2.2.1
theorem sh_17 {H : List xE} (h : Shp H) : H[17]? = some (.inr (4, [.ref 18, .int (rI H 17 1)])) := h.2.2.2.2.2.2.2.2.2.2.2.2.2.2.2.2.2.1
theorem sh_18 {H : List xE} (h : Shp H) : H[18]? = some (.inl (0, 18, .inl (rA H 18))) := h.2.2.2.2.2.2.2.2.2.2.2.2.2.2.2.2.2.2.1
theorem sh_19 {H : List xE} (h : Shp H) : H[19]? = some (.inr (5, [.ref 20, .ref 22])) := h.2.2.2.2.2.2.2.2.2.2.2.2.2.2.2.2.2.2.2.1
theorem sh_20 {H : List xE} (h : Shp H) : H[20]? = some (.inr (4, [.ref 21, .int (rI H 20 1)])) := h.2.2.2.2.2.2.2.2.2.2.2.2.2.2.2.2.2.2.2.2.1
theorem sh_21 {H : List xE} (h : Shp H) : H[21]? = some (.inl (0, 18, .inl (rA H 21))) := h.2.2.2.2.2.2.2.2.2.2.2.2.2.2.2.2.2.2.2.2.2.1
theorem sh_22 {H : List xE} (h : Shp H) : H[22]? = some (.inl (0, 190, .inl (rA H 22))) := h.2.2.2.2.2.2.2.2.2.2.2.2.2.2.2.2.2.2.2.2.2.2.1
theorem sh_23 {H : List xE} (h : Shp H) : H[23]? = some (.inr (9, [.ref 24, .ref 27, .ref 29, .ref 31, .int (rI H 23 4)])) := h.2.2.2.2.2.2.2.2.2.2.2.2.2.2.2.2.2.2.2.2.2.2.2.1
theorem sh_24 {H : List xE} (h : Shp H) : H[24]? = some (.inr (7, [.int (rI H 24 0), .ref 25, .ref 26])) := h.2.2.2.2.2.2.2.2.2.2.2.2.2.2.2.2.2.2.2.2.2.2.2.2.1
theorem sh_25 {H : List xE} (h : Shp H) : H[25]? = some (.inl (0, 180, .inl (rA H 25))) := h.2.2.2.2.2.2.2.2.2.2.2.2.2.2.2.2.2.2.2.2.2.2.2.2.2.1
theorem sh_26 {H : List xE} (h : Shp H) : H[26]? = some (.inl (0, 20, .inl (rA H 26))) := h.2.2.2.2.2.2.2.2.2.2.2.2.2.2.2.2.2.2.2.2.2.2.2.2.2.2.1
theorem sh_27 {H : List xE} (h : Shp H) : H[27]? = some (.inr (4, [.ref 28, .int (rI H 27 1)])) := h.2.2.2.2.2.2.2.2.2.2.2.2.2.2.2.2.2.2.2.2.2.2.2.2.2.2.2.1
theorem sh_28 {H : List xE} (h : Shp H) : H[28]? = some (.inl (0, 9, .inl (rA H 28))) := h.2.2.2.2.2.2.2.2.2.2.2.2.2.2.2.2.2.2.2.2.2.2.2.2.2.2.2.2.1
theorem sh_29 {H : List xE} (h : Shp H) : H[29]? = some (.inr (4, [.ref 30, .int (rI H 29 1)])) := h.2.2.2.2.2.2.2.2.2.2.2.2.2.2.2.2.2.2.2.2.2.2.2.2.2.2.2.2.2.1
theorem sh_30 {H : List xE} (h : Shp H) : H[30]? = some (.inl (0, 9, .inl (rA H 30))) := h.2.2.2.2.2.2.2.2.2.2.2.2.2.2.2.2.2.2.2.2.2.2.2.2.2.2.2.2.2.2.1
theorem sh_31 {H : List xE} (h : Shp H) : H[31]? = some (.inr (4, [.ref 32, .int (rI H 31 1)])) := h.2.2.2.2.2.2.2.2.2.2.2.2.2.2.2.2.2.2.2.2.2.2.2.2.2.2.2.2.2.2.2.1
theorem sh_32 {H : List xE} (h : Shp H) : H[32]? = some (.inl (0, 9, .inl (rA H 32))) := h.2.2.2.2.2.2.2.2.2.2.2.2.2.2.2.2.2.2.2.2.2.2.2.2.2.2.2.2.2.2.2.2.1
theorem sh_33 {H : List xE} (h : Shp H) : H[33]? = some (.inr (4, [.ref 34, .int (rI H 33 1)])) := h.2.2.2.2.2.2.2.2.2.2.2.2.2.2.2.2.2.2.2.2.2.2.2.2.2.2.2.2.2.2.2.2.2.1
theorem sh_34 {H : List xE} (h : Shp H) : H[34]? = some (.inl (0, 65, .inl (rA H 34))) := h.2.2.2.2.2.2.2.2.2.2.2.2.2.2.2.2.2.2.2.2.2.2.2.2.2.2.2.2.2.2.2.2.2.2.1
theorem sh_35 {H : List xE} (h : Shp H) : H[35]? = some (.inr (0, [.ref 36, .ref 38, .ref 39, .int (rI H 35 3)])) := h.2.2.2.2.2.2.2.2.2.2.2.2.2.2.2.2.2.2.2.2.2.2.2.2.2.2.2.2.2.2.2.2.2.2.2.1
theorem sh_36 {H : List xE} (h : Shp H) : H[36]? = some (.inr (4, [.ref 37, .int (rI H 36 1)])) := h.2.2.2.2.2.2.2.2.2.2.2.2.2.2.2.2.2.2.2.2.2.2.2.2.2.2.2.2.2.2.2.2.2.2.2.2.1
theorem sh_37 {H : List xE} (h : Shp H) : H[37]? = some (.inl (0, 65, .inl (rA H 37))) := h.2.2.2.2.2.2.2.2.2.2.2.2.2.2.2.2.2.2.2.2.2.2.2.2.2.2.2.2.2.2.2.2.2.2.2.2.2.1
theorem sh_38 {H : List xE} (h : Shp H) : H[38]? = some (.inl (0, 65, .inl (rA H 38))) := h.2.2.2.2.2.2.2.2.2.2.2.2.2.2.2.2.2.2.2.2.2.2.2.2.2.2.2.2.2.2.2.2.2.2.2.2.2.2.1
theorem sh_39 {H : List xE} (h : Shp H) : H[39]? = some (.inl (2, 65, .inl (rA H 39))) := h.2.2.2.2.2.2.2.2.2.2.2.2.2.2.2.2.2.2.2.2.2.2.2.2.2.2.2.2.2.2.2.2.2.2.2.2.2.2.2.1
theorem sh_40 {H : List xE} (h : Shp H) : H[40]? = some (.inr (0, [.ref 41, .ref 43, .ref 44, .int (rI H 40 3)])) := h.2.2.2.2.2.2.2.2.2.2.2.2.2.2.2.2.2.2.2.2.2.2.2.2.2.2.2.2.2.2.2.2.2.2.2.2.2.2.2.2.1
theorem sh_41 {H : List xE} (h : Shp H) : H[41]? = some (.inr (4, [.ref 42, .int (rI H 41 1)])) := h.2.2.2.2.2.2.2.2.2.2.2.2.2.2.2.2.2.2.2.2.2.2.2.2.2.2.2.2.2.2.2.2.2.2.2.2.2.2.2.2.2.1
theorem sh_42 {H : List xE} (h : Shp H) : H[42]? = some (.inl (0, 65, .inl (rA H 42))) := h.2.2.2.2.2.2.2.2.2.2.2.2.2.2.2.2.2.2.2.2.2.2.2.2.2.2.2.2.2.2.2.2.2.2.2.2.2.2.2.2.2.2.1
theorem sh_43 {H : List xE} (h : Shp H) : H[43]? = some (.inl (0, 65, .inl (rA H 43))) := h.2.2.2.2.2.2.2.2.2.2.2.2.2.2.2.2.2.2.2.2.2.2.2.2.2.2.2.2.2.2.2.2.2.2.2.2.2.2.2.2.2.2.2.1
theorem sh_44 {H : List xE} (h : Shp H) : H[44]? = some (.inl (2, 65, .inl (rA H 44))) := h.2.2.2.2.2.2.2.2.2.2.2.2.2.2.2.2.2.2.2.2.2.2.2.2.2.2.2.2.2.2.2.2.2.2.2.2.2.2.2.2.2.2.2.2.1
theorem sh_45 {H : List xE} (h : Shp H) : H[45]? = some (.inr (8, [.ref 46, .ref 47, .int (rI H 45 2)])) := h.2.2.2.2.2.2.2.2.2.2.2.2.2.2.2.2.2.2.2.2.2.2.2.2.2.2.2.2.2.2.2.2.2.2.2.2.2.2.2.2.2.2.2.2.2.1
theorem sh_46 {H : List xE} (h : Shp H) : H[46]? = some (.inl (1, 80, .inr (.inl (rB H 46)))) := h.2.2.2.2.2.2.2.2.2.2.2.2.2.2.2.2.2.2.2.2.2.2.2.2.2.2.2.2.2.2.2.2.2.2.2.2.2.2.2.2.2.2.2.2.2.2.1
theorem sh_47 {H : List xE} (h : Shp H) : H[47]? = some (.inl (0, 5, .inl (rA H 47))) := h.2.2.2.2.2.2.2.2.2.2.2.2.2.2.2.2.2.2.2.2.2.2.2.2.2.2.2.2.2.2.2.2.2.2.2.2.2.2.2.2.2.2.2.2.2.2.2.1
theorem sh_48 {H : List xE} (h : Shp H) : H[48]? = some (oM (rI H 48 17) (rI H 48 18) (rI H 48 19) (rI H 48 20) (rI H 48 21) (rI H 48 22) (rI H 48 23) (rI H 48 24) (rI H 48 25) (rL H 48 26) (rL H 48 27) (rL H 48 28)) := h.2.2.2.2.2.2.2.2.2.2.2.2.2.2.2.2.2.2.2.2.2.2.2.2.2.2.2.2.2.2.2.2.2.2.2.2.2.2.2.2.2.2.2.2.2.2.2.2.1
theorem sh_49 {H : List xE} (h : Shp H) : H[49]? = some (.inl (0, 64, .inl (rA H 49))) := h.2.2.2.2.2.2.2.2.2.2.2.2.2.2.2.2.2.2.2.2.2.2.2.2.2.2.2.2.2.2.2.2.2.2.2.2.2.2.2.2.2.2.2.2.2.2.2.2.2.1
theorem sh_50 {H : List xE} (h : Shp H) : H[50]? = some (.inl (0, 80, .inl (rA H 50))) := h.2.2.2.2.2.2.2.2.2.2.2.2.2.2.2.2.2.2.2.2.2.2.2.2.2.2.2.2.2.2.2.2.2.2.2.2.2.2.2.2.2.2.2.2.2.2.2.2.2.2.1
theorem sh_51 {H : List xE} (h : Shp H) : H[51]? = some (.inl (0, 80, .inl (rA H 51))) := h.2.2.2.2.2.2.2.2.2.2.2.2.2.2.2.2.2.2.2.2.2.2.2.2.2.2.2.2.2.2.2.2.2.2.2.2.2.2.2.2.2.2.2.2.2.2.2.2.2.2.2.1
theorem sh_52 {H : List xE} (h : Shp H) : H[52]? = some (.inl (0, 650, .inl (rA H 52))) := h.2.2.2.2.2.2.2.2.2.2.2.2.2.2.2.2.2.2.2.2.2.2.2.2.2.2.2.2.2.2.2.2.2.2.2.2.2.2.2.2.2.2.2.2.2.2.2.2.2.2.2.2.1
theorem sh_53 {H : List xE} (h : Shp H) : H[53]? = some (.inl (0, 768, .inl (rA H 53))) := h.2.2.2.2.2.2.2.2.2.2.2.2.2.2.2.2.2.2.2.2.2.2.2.2.2.2.2.2.2.2.2.2.2.2.2.2.2.2.2.2.2.2.2.2.2.2.2.2.2.2.2.2.2.1
theorem sh_54 {H : List xE} (h : Shp H) : H[54]? = some (.inl (0, 192, .inl (rA H 54))) := h.2.2.2.2.2.2.2.2.2.2.2.2.2.2.2.2.2.2.2.2.2.2.2.2.2.2.2.2.2.2.2.2.2.2.2.2.2.2.2.2.2.2.2.2.2.2.2.2.2.2.2.2.2.2.1
theorem sh_55 {H : List xE} (h : Shp H) : H[55]? = some (.inl (0, 192, .inl (rA H 55))) := h.2.2.2.2.2.2.2.2.2.2.2.2.2.2.2.2.2.2.2.2.2.2.2.2.2.2.2.2.2.2.2.2.2.2.2.2.2.2.2.2.2.2.2.2.2.2.2.2.2.2.2.2.2.2.2.1
theorem sh_56 {H : List xE} (h : Shp H) : H[56]? = some (.inl (0, 192, .inl (rA H 56))) := h.2.2.2.2.2.2.2.2.2.2.2.2.2.2.2.2.2.2.2.2.2.2.2.2.2.2.2.2.2.2.2.2.2.2.2.2.2.2.2.2.2.2.2.2.2.2.2.2.2.2.2.2.2.2.2.2.1
theorem sh_57 {H : List xE} (h : Shp H) : H[57]? = some (.inl (0, 18, .inl (rA H 57))) := h.2.2.2.2.2.2.2.2.2.2.2.2.2.2.2.2.2.2.2.2.2.2.2.2.2.2.2.2.2.2.2.2.2.2.2.2.2.2.2.2.2.2.2.2.2.2.2.2.2.2.2.2.2.2.2.2.2.1
theorem sh_58 {H : List xE} (h : Shp H) : H[58]? = some (.inl (0, 200, .inl (rA H 58))) := h.2.2.2.2.2.2.2.2.2.2.2.2.2.2.2.2.2.2.2.2.2.2.2.2.2.2.2.2.2.2.2.2.2.2.2.2.2.2.2.2.2.2.2.2.2.2.2.2.2.2.2.2.2.2.2.2.2.2.1
theorem sh_59 {H : List xE} (h : Shp H) : H[59]? = some (.inl (0, 80, .inl (rA H 59))) := h.2.2.2.2.2.2.2.2.2.2.2.2.2.2.2.2.2.2.2.2.2.2.2.2.2.2.2.2.2.2.2.2.2.2.2.2.2.2.2.2.2.2.2.2.2.2.2.2.2.2.2.2.2.2.2.2.2.2.2.1
theorem sh_60 {H : List xE} (h : Shp H) : H[60]? = some (.inl (0, 80, .inl (rA H 60))) := h.2.2.2.2.2.2.2.2.2.2.2.2.2.2.2.2.2.2.2.2.2.2.2.2.2.2.2.2.2.2.2.2.2.2.2.2.2.2.2.2.2.2.2.2.2.2.2.2.2.2.2.2.2.2.2.2.2.2.2.2.1
theorem sh_61 {H : List xE} (h : Shp H) : H[61]? = some (.inl (0, 80, .inl (rA H 61))) := h.2.2.2.2.2.2.2.2.2.2.2.2.2.2.2.2.2.2.2.2.2.2.2.2.2.2.2.2.2.2.2.2.2.2.2.2.2.2.2.2.2.2.2.2.2.2.2.2.2.2.2.2.2.2.2.2.2.2.2.2.2.1
theorem sh_62 {H : List xE} (h : Shp H) : H[62]? = some (.inl (1, 48, .inr (.inl (rB H 62)))) := h.2.2.2.2.2.2.2.2.2.2.2.2.2.2.2.2.2.2.2.2.2.2.2.2.2.2.2.2.2.2.2.2.2.2.2.2.2.2.2.2.2.2.2.2.2.2.2.2.2.2.2.2.2.2.2.2.2.2.2.2.2.2.1
theorem sh_63 {H : List xE} (h : Shp H) : H[63]? = some (.inl (1, 32, .inr (.inl (rB H 63)))) := h.2.2.2.2.2.2.2.2.2.2.2.2.2.2.2.2.2.2.2.2.2.2.2.2.2.2.2.2.2.2.2.2.2.2.2.2.2.2.2.2.2.2.2.2.2.2.2.2.2.2.2.2.2.2.2.2.2.2.2.2.2.2.2.1
theorem sh_64 {H : List xE} (h : Shp H) : H[64]? = some (.inl (1, 32, .inr (.inl (rB H 64)))) := h.2.2.2.2.2.2.2.2.2.2.2.2.2.2.2.2.2.2.2.2.2.2.2.2.2.2.2.2.2.2.2.2.2.2.2.2.2.2.2.2.2.2.2.2.2.2.2.2.2.2.2.2.2.2.2.2.2.2.2.2.2.2.2.2.1
theorem sh_65 {H : List xE} (h : Shp H) : H[65]? = some (.inl (1, 32, .inr (.inl (rB H 65)))) := h.2.2.2.2.2.2.2.2.2.2.2.2.2.2.2.2.2.2.2.2.2.2.2.2.2.2.2.2.2.2.2.2.2.2.2.2.2.2.2.2.2.2.2.2.2.2.2.2.2.2.2.2.2.2.2.2.2.2.2.2.2.2.2.2.2.1
theorem sh_66 {H : List xE} (h : Shp H) : H[66]? = some (.inl (1, 1, .inr (.inl (rB H 66)))) := h.2.2.2.2.2.2.2.2.2.2.2.2.2.2.2.2.2.2.2.2.2.2.2.2.2.2.2.2.2.2.2.2.2.2.2.2.2.2.2.2.2.2.2.2.2.2.2.2.2.2.2.2.2.2.2.2.2.2.2.2.2.2.2.2.2.2.1
theorem sh_1000000 {H : List xE} (h : Shp H) : H[1000000]? = none := h.2.2.2.2.2.2.2.2.2.2.2.2.2.2.2.2.2.2.2.2.2.2.2.2.2.2.2.2.2.2.2.2.2.2.2.2.2.2.2.2.2.2.2.2.2.2.2.2.2.2.2.2.2.2.2.2.2.2.2.2.2.2.2.2.2.2.2.1
theorem sh_1000002 {H : List xE} (h : Shp H) : H[1000002]? = none := h.2.2.2.2.2.2.2.2.2.2.2.2.2.2.2.2.2.2.2.2.2.2.2.2.2.2.2.2.2.2.2.2.2.2.2.2.2.2.2.2.2.2.2.2.2.2.2.2.2.2.2.2.2.2.2.2.2.2.2.2.2.2.2.2.2.2.2.2
theorem mk_1 {H : List xE} {c1_1 : Int32} (h : H[1]? = some (.inr (4, [.ref 2, .int c1_1]))) : H[1]? = some (.inr (4, [.ref 2, .int (rI H 1 1)])) := by
  rw [show rI H 1 1 = c1_1 from (rI_of h rfl)]
  exact h
theorem mk_2 {H : List xE} {a2 : Nat → Int32} (h : H[2]? = some (.inl (0, 64, .inl a2))) : H[2]? = some (.inl (0, 64, .inl (rA H 2))) := by
  rw [show rA H 2 = a2 from (rA_of h)]
  exact h
theorem mk_3 {H : List xE} {c3_1 : Int32} {c3_2 : Int32} (h : H[3]? = some (.inr (2, [.ref 4, .int c3_1, .int c3_2]))) : H[3]? = some (.inr (2, [.ref 4, .int (rI H 3 1), .int (rI H 3 2)])) := by
  rw [show rI H 3 1 = c3_1 from (rI_of h rfl), show rI H 3 2 = c3_2 from (rI_of h rfl)]
  exact h
theorem mk_4 {H : List xE} {c4_0 : Int32} (h : H[4]? = some (.inr (7, [.int c4_0, .ref 5, .ref 6]))) : H[4]? = some (.inr (7, [.int (rI H 4 0), .ref 5, .ref 6])) := by
  rw [show rI H 4 0 = c4_0 from (rI_of h rfl)]
  exact h
theorem mk_5 {H : List xE} {a5 : Nat → Int32} (h : H[5]? = some (.inl (0, 640, .inl a5))) : H[5]? = some (.inl (0, 640, .inl (rA H 5))) := by
  rw [show rA H 5 = a5 from (rA_of h)]
  exact h
theorem mk_6 {H : List xE} {a6 : Nat → Int32} (h : H[6]? = some (.inl (0, 10, .inl a6))) : H[6]? = some (.inl (0, 10, .inl (rA H 6))) := by
  rw [show rA H 6 = a6 from (rA_of h)]
  exact h
theorem mk_7 {H : List xE} {c7_0 : Int32} {c7_1 : Int32} {c7_2 : Int32} {c7_3 : Int32} {c7_4 : Int32} {c7_5 : Int32} (h : H[7]? = some (.inr (1, [.int c7_0, .int c7_1, .int c7_2, .int c7_3, .int c7_4, .int c7_5]))) : H[7]? = some (.inr (1, [.int (rI H 7 0), .int (rI H 7 1), .int (rI H 7 2), .int (rI H 7 3), .int (rI H 7 4), .int (rI H 7 5)])) := by
  rw [show rI H 7 0 = c7_0 from (rI_of h rfl), show rI H 7 1 = c7_1 from (rI_of h rfl), show rI H 7 2 = c7_2 from (rI_of h rfl), show rI H 7 3 = c7_3 from (rI_of h rfl), show rI H 7 4 = c7_4 from (rI_of h rfl), show rI H 7 5 = c7_5 from (rI_of h rfl)]
  exact h
theorem mk_8 {H : List xE} {c8_0 : Int32} {c8_1 : Int32} {c8_2 : Int32} {c8_3 : Int32} {c8_4 : Int32} {c8_5 : Int32} (h : H[8]? = some (.inr (1, [.int c8_0, .int c8_1, .int c8_2, .int c8_3, .int c8_4, .int c8_5]))) : H[8]? = some (.inr (1, [.int (rI H 8 0), .int (rI H 8 1), .int (rI H 8 2), .int (rI H 8 3), .int (rI H 8 4), .int (rI H 8 5)])) := by
  rw [show rI H 8 0 = c8_0 from (rI_of h rfl), show rI H 8 1 = c8_1 from (rI_of h rfl), show rI H 8 2 = c8_2 from (rI_of h rfl), show rI H 8 3 = c8_3 from (rI_of h rfl), show rI H 8 4 = c8_4 from (rI_of h rfl), show rI H 8 5 = c8_5 from (rI_of h rfl)]
  exact h
theorem mk_9 {H : List xE} {c9_0 : Int32} {c9_1 : Int32} {c9_2 : Int32} {c9_3 : Int32} {c9_4 : Int32} {c9_5 : Int32} (h : H[9]? = some (.inr (1, [.int c9_0, .int c9_1, .int c9_2, .int c9_3, .int c9_4, .int c9_5]))) : H[9]? = some (.inr (1, [.int (rI H 9 0), .int (rI H 9 1), .int (rI H 9 2), .int (rI H 9 3), .int (rI H 9 4), .int (rI H 9 5)])) := by
  rw [show rI H 9 0 = c9_0 from (rI_of h rfl), show rI H 9 1 = c9_1 from (rI_of h rfl), show rI H 9 2 = c9_2 from (rI_of h rfl), show rI H 9 3 = c9_3 from (rI_of h rfl), show rI H 9 4 = c9_4 from (rI_of h rfl), show rI H 9 5 = c9_5 from (rI_of h rfl)]
  exact h
theorem mk_10 {H : List xE} {a10 : Nat → Int64} (h : H[10]? = some (.inl (1, 8, .inr (.inl a10)))) : H[10]? = some (.inl (1, 8, .inr (.inl (rB H 10)))) := by
  rw [show rB H 10 = a10 from (rB_of h)]
  exact h
theorem mk_11 {H : List xE} {a11 : Nat → Int64} (h : H[11]? = some (.inl (1, 8, .inr (.inl a11)))) : H[11]? = some (.inl (1, 8, .inr (.inl (rB H 11)))) := by
  rw [show rB H 11 = a11 from (rB_of h)]
  exact h
theorem mk_12 {H : List xE} {c12_0 : Int64} {c12_1 : Int64} (h : H[12]? = some (.inr (3, [.long c12_0, .long c12_1]))) : H[12]? = some (.inr (3, [.long (rL H 12 0), .long (rL H 12 1)])) := by
  rw [show rL H 12 0 = c12_0 from (rL_of h rfl), show rL H 12 1 = c12_1 from (rL_of h rfl)]
  exact h
theorem mk_13 {H : List xE} {c13_0 : Int64} {c13_1 : Int64} (h : H[13]? = some (.inr (3, [.long c13_0, .long c13_1]))) : H[13]? = some (.inr (3, [.long (rL H 13 0), .long (rL H 13 1)])) := by
  rw [show rL H 13 0 = c13_0 from (rL_of h rfl), show rL H 13 1 = c13_1 from (rL_of h rfl)]
  exact h
theorem mk_14 {H : List xE} {c14_0 : Int64} {c14_1 : Int64} (h : H[14]? = some (.inr (3, [.long c14_0, .long c14_1]))) : H[14]? = some (.inr (3, [.long (rL H 14 0), .long (rL H 14 1)])) := by
  rw [show rL H 14 0 = c14_0 from (rL_of h rfl), show rL H 14 1 = c14_1 from (rL_of h rfl)]
  exact h
theorem mk_16 {H : List xE} {a16 : Nat → Int32} (h : H[16]? = some (.inl (0, 48, .inl a16))) : H[16]? = some (.inl (0, 48, .inl (rA H 16))) := by
  rw [show rA H 16 = a16 from (rA_of h)]
  exact h
theorem mk_17 {H : List xE} {c17_1 : Int32} (h : H[17]? = some (.inr (4, [.ref 18, .int c17_1]))) : H[17]? = some (.inr (4, [.ref 18, .int (rI H 17 1)])) := by
  rw [show rI H 17 1 = c17_1 from (rI_of h rfl)]
  exact h
theorem mk_18 {H : List xE} {a18 : Nat → Int32} (h : H[18]? = some (.inl (0, 18, .inl a18))) : H[18]? = some (.inl (0, 18, .inl (rA H 18))) := by
  rw [show rA H 18 = a18 from (rA_of h)]
  exact h
theorem mk_20 {H : List xE} {c20_1 : Int32} (h : H[20]? = some (.inr (4, [.ref 21, .int c20_1]))) : H[20]? = some (.inr (4, [.ref 21, .int (rI H 20 1)])) := by
  rw [show rI H 20 1 = c20_1 from (rI_of h rfl)]
  exact h
theorem mk_21 {H : List xE} {a21 : Nat → Int32} (h : H[21]? = some (.inl (0, 18, .inl a21))) : H[21]? = some (.inl (0, 18, .inl (rA H 21))) := by
  rw [show rA H 21 = a21 from (rA_of h)]
  exact h
theorem mk_22 {H : List xE} {a22 : Nat → Int32} (h : H[22]? = some (.inl (0, 190, .inl a22))) : H[22]? = some (.inl (0, 190, .inl (rA H 22))) := by
  rw [show rA H 22 = a22 from (rA_of h)]
  exact h
theorem mk_23 {H : List xE} {c23_4 : Int32} (h : H[23]? = some (.inr (9, [.ref 24, .ref 27, .ref 29, .ref 31, .int c23_4]))) : H[23]? = some (.inr (9, [.ref 24, .ref 27, .ref 29, .ref 31, .int (rI H 23 4)])) := by
  rw [show rI H 23 4 = c23_4 from (rI_of h rfl)]
  exact h
theorem mk_24 {H : List xE} {c24_0 : Int32} (h : H[24]? = some (.inr (7, [.int c24_0, .ref 25, .ref 26]))) : H[24]? = some (.inr (7, [.int (rI H 24 0), .ref 25, .ref 26])) := by
  rw [show rI H 24 0 = c24_0 from (rI_of h rfl)]
  exact h
theorem mk_25 {H : List xE} {a25 : Nat → Int32} (h : H[25]? = some (.inl (0, 180, .inl a25))) : H[25]? = some (.inl (0, 180, .inl (rA H 25))) := by
  rw [show rA H 25 = a25 from (rA_of h)]
  exact h
theorem mk_26 {H : List xE} {a26 : Nat → Int32} (h : H[26]? = some (.inl (0, 20, .inl a26))) : H[26]? = some (.inl (0, 20, .inl (rA H 26))) := by
  rw [show rA H 26 = a26 from (rA_of h)]
  exact h
theorem mk_27 {H : List xE} {c27_1 : Int32} (h : H[27]? = some (.inr (4, [.ref 28, .int c27_1]))) : H[27]? = some (.inr (4, [.ref 28, .int (rI H 27 1)])) := by
  rw [show rI H 27 1 = c27_1 from (rI_of h rfl)]
  exact h
theorem mk_28 {H : List xE} {a28 : Nat → Int32} (h : H[28]? = some (.inl (0, 9, .inl a28))) : H[28]? = some (.inl (0, 9, .inl (rA H 28))) := by
  rw [show rA H 28 = a28 from (rA_of h)]
  exact h
theorem mk_29 {H : List xE} {c29_1 : Int32} (h : H[29]? = some (.inr (4, [.ref 30, .int c29_1]))) : H[29]? = some (.inr (4, [.ref 30, .int (rI H 29 1)])) := by
  rw [show rI H 29 1 = c29_1 from (rI_of h rfl)]
  exact h
theorem mk_30 {H : List xE} {a30 : Nat → Int32} (h : H[30]? = some (.inl (0, 9, .inl a30))) : H[30]? = some (.inl (0, 9, .inl (rA H 30))) := by
  rw [show rA H 30 = a30 from (rA_of h)]
  exact h
theorem mk_31 {H : List xE} {c31_1 : Int32} (h : H[31]? = some (.inr (4, [.ref 32, .int c31_1]))) : H[31]? = some (.inr (4, [.ref 32, .int (rI H 31 1)])) := by
  rw [show rI H 31 1 = c31_1 from (rI_of h rfl)]
  exact h
theorem mk_32 {H : List xE} {a32 : Nat → Int32} (h : H[32]? = some (.inl (0, 9, .inl a32))) : H[32]? = some (.inl (0, 9, .inl (rA H 32))) := by
  rw [show rA H 32 = a32 from (rA_of h)]
  exact h
theorem mk_33 {H : List xE} {c33_1 : Int32} (h : H[33]? = some (.inr (4, [.ref 34, .int c33_1]))) : H[33]? = some (.inr (4, [.ref 34, .int (rI H 33 1)])) := by
  rw [show rI H 33 1 = c33_1 from (rI_of h rfl)]
  exact h
theorem mk_34 {H : List xE} {a34 : Nat → Int32} (h : H[34]? = some (.inl (0, 65, .inl a34))) : H[34]? = some (.inl (0, 65, .inl (rA H 34))) := by
  rw [show rA H 34 = a34 from (rA_of h)]
  exact h
theorem mk_35 {H : List xE} {c35_3 : Int32} (h : H[35]? = some (.inr (0, [.ref 36, .ref 38, .ref 39, .int c35_3]))) : H[35]? = some (.inr (0, [.ref 36, .ref 38, .ref 39, .int (rI H 35 3)])) := by
  rw [show rI H 35 3 = c35_3 from (rI_of h rfl)]
  exact h
theorem mk_36 {H : List xE} {c36_1 : Int32} (h : H[36]? = some (.inr (4, [.ref 37, .int c36_1]))) : H[36]? = some (.inr (4, [.ref 37, .int (rI H 36 1)])) := by
  rw [show rI H 36 1 = c36_1 from (rI_of h rfl)]
  exact h
theorem mk_37 {H : List xE} {a37 : Nat → Int32} (h : H[37]? = some (.inl (0, 65, .inl a37))) : H[37]? = some (.inl (0, 65, .inl (rA H 37))) := by
  rw [show rA H 37 = a37 from (rA_of h)]
  exact h
theorem mk_38 {H : List xE} {a38 : Nat → Int32} (h : H[38]? = some (.inl (0, 65, .inl a38))) : H[38]? = some (.inl (0, 65, .inl (rA H 38))) := by
  rw [show rA H 38 = a38 from (rA_of h)]
  exact h
theorem mk_39 {H : List xE} {a39 : Nat → Int32} (h : H[39]? = some (.inl (2, 65, .inl a39))) : H[39]? = some (.inl (2, 65, .inl (rA H 39))) := by
  rw [show rA H 39 = a39 from (rA_of h)]
  exact h
theorem mk_40 {H : List xE} {c40_3 : Int32} (h : H[40]? = some (.inr (0, [.ref 41, .ref 43, .ref 44, .int c40_3]))) : H[40]? = some (.inr (0, [.ref 41, .ref 43, .ref 44, .int (rI H 40 3)])) := by
  rw [show rI H 40 3 = c40_3 from (rI_of h rfl)]
  exact h
theorem mk_41 {H : List xE} {c41_1 : Int32} (h : H[41]? = some (.inr (4, [.ref 42, .int c41_1]))) : H[41]? = some (.inr (4, [.ref 42, .int (rI H 41 1)])) := by
  rw [show rI H 41 1 = c41_1 from (rI_of h rfl)]
  exact h
theorem mk_42 {H : List xE} {a42 : Nat → Int32} (h : H[42]? = some (.inl (0, 65, .inl a42))) : H[42]? = some (.inl (0, 65, .inl (rA H 42))) := by
  rw [show rA H 42 = a42 from (rA_of h)]
  exact h
theorem mk_43 {H : List xE} {a43 : Nat → Int32} (h : H[43]? = some (.inl (0, 65, .inl a43))) : H[43]? = some (.inl (0, 65, .inl (rA H 43))) := by
  rw [show rA H 43 = a43 from (rA_of h)]
  exact h
theorem mk_44 {H : List xE} {a44 : Nat → Int32} (h : H[44]? = some (.inl (2, 65, .inl a44))) : H[44]? = some (.inl (2, 65, .inl (rA H 44))) := by
  rw [show rA H 44 = a44 from (rA_of h)]
  exact h
theorem mk_45 {H : List xE} {c45_2 : Int32} (h : H[45]? = some (.inr (8, [.ref 46, .ref 47, .int c45_2]))) : H[45]? = some (.inr (8, [.ref 46, .ref 47, .int (rI H 45 2)])) := by
  rw [show rI H 45 2 = c45_2 from (rI_of h rfl)]
  exact h
theorem mk_46 {H : List xE} {a46 : Nat → Int64} (h : H[46]? = some (.inl (1, 80, .inr (.inl a46)))) : H[46]? = some (.inl (1, 80, .inr (.inl (rB H 46)))) := by
  rw [show rB H 46 = a46 from (rB_of h)]
  exact h
theorem mk_47 {H : List xE} {a47 : Nat → Int32} (h : H[47]? = some (.inl (0, 5, .inl a47))) : H[47]? = some (.inl (0, 5, .inl (rA H 47))) := by
  rw [show rA H 47 = a47 from (rA_of h)]
  exact h
theorem mk_48 {H : List xE} {c48_17 : Int32} {c48_18 : Int32} {c48_19 : Int32} {c48_20 : Int32} {c48_21 : Int32} {c48_22 : Int32} {c48_23 : Int32} {c48_24 : Int32} {c48_25 : Int32} {c48_26 : Int64} {c48_27 : Int64} {c48_28 : Int64} (h : H[48]? = some (oM c48_17 c48_18 c48_19 c48_20 c48_21 c48_22 c48_23 c48_24 c48_25 c48_26 c48_27 c48_28)) : H[48]? = some (oM (rI H 48 17) (rI H 48 18) (rI H 48 19) (rI H 48 20) (rI H 48 21) (rI H 48 22) (rI H 48 23) (rI H 48 24) (rI H 48 25) (rL H 48 26) (rL H 48 27) (rL H 48 28)) := by
  rw [show rI H 48 17 = c48_17 from (rI_of h rfl), show rI H 48 18 = c48_18 from (rI_of h rfl), show rI H 48 19 = c48_19 from (rI_of h rfl), show rI H 48 20 = c48_20 from (rI_of h rfl), show rI H 48 21 = c48_21 from (rI_of h rfl), show rI H 48 22 = c48_22 from (rI_of h rfl), show rI H 48 23 = c48_23 from (rI_of h rfl), show rI H 48 24 = c48_24 from (rI_of h rfl), show rI H 48 25 = c48_25 from (rI_of h rfl), show rL H 48 26 = c48_26 from (rL_of h rfl), show rL H 48 27 = c48_27 from (rL_of h rfl), show rL H 48 28 = c48_28 from (rL_of h rfl)]
  exact h
theorem mk_49 {H : List xE} {a49 : Nat → Int32} (h : H[49]? = some (.inl (0, 64, .inl a49))) : H[49]? = some (.inl (0, 64, .inl (rA H 49))) := by
  rw [show rA H 49 = a49 from (rA_of h)]
  exact h
theorem mk_50 {H : List xE} {a50 : Nat → Int32} (h : H[50]? = some (.inl (0, 80, .inl a50))) : H[50]? = some (.inl (0, 80, .inl (rA H 50))) := by
  rw [show rA H 50 = a50 from (rA_of h)]
  exact h
theorem mk_51 {H : List xE} {a51 : Nat → Int32} (h : H[51]? = some (.inl (0, 80, .inl a51))) : H[51]? = some (.inl (0, 80, .inl (rA H 51))) := by
  rw [show rA H 51 = a51 from (rA_of h)]
  exact h
theorem mk_52 {H : List xE} {a52 : Nat → Int32} (h : H[52]? = some (.inl (0, 650, .inl a52))) : H[52]? = some (.inl (0, 650, .inl (rA H 52))) := by
  rw [show rA H 52 = a52 from (rA_of h)]
  exact h
theorem mk_53 {H : List xE} {a53 : Nat → Int32} (h : H[53]? = some (.inl (0, 768, .inl a53))) : H[53]? = some (.inl (0, 768, .inl (rA H 53))) := by
  rw [show rA H 53 = a53 from (rA_of h)]
  exact h
theorem mk_54 {H : List xE} {a54 : Nat → Int32} (h : H[54]? = some (.inl (0, 192, .inl a54))) : H[54]? = some (.inl (0, 192, .inl (rA H 54))) := by
  rw [show rA H 54 = a54 from (rA_of h)]
  exact h
theorem mk_55 {H : List xE} {a55 : Nat → Int32} (h : H[55]? = some (.inl (0, 192, .inl a55))) : H[55]? = some (.inl (0, 192, .inl (rA H 55))) := by
  rw [show rA H 55 = a55 from (rA_of h)]
  exact h
theorem mk_56 {H : List xE} {a56 : Nat → Int32} (h : H[56]? = some (.inl (0, 192, .inl a56))) : H[56]? = some (.inl (0, 192, .inl (rA H 56))) := by
  rw [show rA H 56 = a56 from (rA_of h)]
  exact h
theorem mk_57 {H : List xE} {a57 : Nat → Int32} (h : H[57]? = some (.inl (0, 18, .inl a57))) : H[57]? = some (.inl (0, 18, .inl (rA H 57))) := by
  rw [show rA H 57 = a57 from (rA_of h)]
  exact h
theorem mk_58 {H : List xE} {a58 : Nat → Int32} (h : H[58]? = some (.inl (0, 200, .inl a58))) : H[58]? = some (.inl (0, 200, .inl (rA H 58))) := by
  rw [show rA H 58 = a58 from (rA_of h)]
  exact h
theorem mk_59 {H : List xE} {a59 : Nat → Int32} (h : H[59]? = some (.inl (0, 80, .inl a59))) : H[59]? = some (.inl (0, 80, .inl (rA H 59))) := by
  rw [show rA H 59 = a59 from (rA_of h)]
  exact h
theorem mk_60 {H : List xE} {a60 : Nat → Int32} (h : H[60]? = some (.inl (0, 80, .inl a60))) : H[60]? = some (.inl (0, 80, .inl (rA H 60))) := by
  rw [show rA H 60 = a60 from (rA_of h)]
  exact h
theorem mk_61 {H : List xE} {a61 : Nat → Int32} (h : H[61]? = some (.inl (0, 80, .inl a61))) : H[61]? = some (.inl (0, 80, .inl (rA H 61))) := by
  rw [show rA H 61 = a61 from (rA_of h)]
  exact h
theorem mk_62 {H : List xE} {a62 : Nat → Int64} (h : H[62]? = some (.inl (1, 48, .inr (.inl a62)))) : H[62]? = some (.inl (1, 48, .inr (.inl (rB H 62)))) := by
  rw [show rB H 62 = a62 from (rB_of h)]
  exact h
theorem mk_63 {H : List xE} {a63 : Nat → Int64} (h : H[63]? = some (.inl (1, 32, .inr (.inl a63)))) : H[63]? = some (.inl (1, 32, .inr (.inl (rB H 63)))) := by
  rw [show rB H 63 = a63 from (rB_of h)]
  exact h
theorem mk_64 {H : List xE} {a64 : Nat → Int64} (h : H[64]? = some (.inl (1, 32, .inr (.inl a64)))) : H[64]? = some (.inl (1, 32, .inr (.inl (rB H 64)))) := by
  rw [show rB H 64 = a64 from (rB_of h)]
  exact h
theorem mk_65 {H : List xE} {a65 : Nat → Int64} (h : H[65]? = some (.inl (1, 32, .inr (.inl a65)))) : H[65]? = some (.inl (1, 32, .inr (.inl (rB H 65)))) := by
  rw [show rB H 65 = a65 from (rB_of h)]
  exact h
theorem mk_66 {H : List xE} {a66 : Nat → Int64} (h : H[66]? = some (.inl (1, 1, .inr (.inl a66)))) : H[66]? = some (.inl (1, 1, .inr (.inl (rB H 66)))) := by
  rw [show rB H 66 = a66 from (rB_of h)]
  exact h
def Inv (H : List xE) : Prop := IB (rI H 1 1) (rA H 2) (rI H 48 17) (rA H 49) ∧ IP (rI H 3 1) (rI H 3 2) (rI H 4 0) (rA H 5) (rA H 6) (rI H 48 20) (rA H 52) ∧ IK (rI H 8 0) (rI H 8 1) (rI H 8 2) (rI H 8 3) (rI H 8 4) (rI H 8 5) (rI H 48 24) (rI H 48 25) (rL H 48 26) (rL H 48 27) (rL H 48 28) ∧ I7 (rI H 7 0) (rI H 7 1) (rI H 7 2) (rI H 7 3) (rI H 7 4) (rI H 7 5) ∧ ISh (rB H 10) (rB H 11) (rA H 53) ∧ IDg (rI H 17 1) (rA H 18) (rI H 48 21) (rA H 57) ∧ IW (rI H 23 4) (rI H 24 0) (rA H 25) (rA H 26) (rI H 48 22) (rA H 58) ∧ ICo (rA H 22)

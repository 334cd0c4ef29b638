def LX : List LC := [.inr (.inr (7, [.inl 1, .inl 7, .inl 13, .inr false, .inl 16, .inl 23, .inl 29, .inl 41, .inr false, .inr true, .inl 53, .inl 55, .inl 56])), .inr (.inr (2, [.inr false, .inl 2, .inl 3, .inl 4, .inl 5, .inl 6, .inr false])), .inl (false, 84), .inl (false, 48), .inl (false, 6), .inl (false, 16), .inl (false, 48), .inr (.inr (2, [.inr false, .inl 8, .inl 9, .inl 10, .inl 11, .inl 12, .inr false])), .inl (false, 84), .inl (false, 48), .inl (false, 6), .inl (false, 16), .inl (false, 48), .inr (.inr (1, [.inr false, .inl 14, .inl 15])), .inl (false, 1440), .inl (false, 17), .inr (.inr (0, [.inr false, .inr false, .inl 17, .inl 18, .inl 19, .inl 20, .inl 21, .inl 22])), .inl (false, 48), .inl (false, 48), .inl (false, 48), .inl (false, 48), .inl (true, 48), .inl (false, 48), .inr (.inr (5, [.inr false, .inl 24, .inl 25, .inl 26, .inl 27, .inl 28])), .inl (true, 1296), .inl (false, 4), .inl (false, 4), .inl (false, 48), .inl (true, 52), .inr (.inr (6, [.inl 30, .inl 31, .inl 32, .inl 33, .inl 34, .inl 35, .inl 36, .inl 37, .inl 38, .inr false])), .inl (false, 16), .inl (false, 16), .inl (false, 16), .inl (false, 16), .inl (false, 16), .inl (false, 16), .inl (false, 16), .inl (false, 256), .inr (.inr (1, [.inr false, .inl 39, .inl 40])), .inl (false, 1440), .inl (false, 17), .inr (.inr (6, [.inl 42, .inl 43, .inl 44, .inl 45, .inl 46, .inl 47, .inl 48, .inl 49, .inl 50, .inr false])), .inl (false, 16), .inl (false, 16), .inl (false, 16), .inl (false, 16), .inl (false, 16), .inl (false, 16), .inl (false, 16), .inl (false, 256), .inr (.inr (1, [.inr false, .inl 51, .inl 52])), .inl (false, 1440), .inl (false, 17), .inr (.inr (4, [.inl 54, .inr false])), .inl (false, 120), .inr (.inl (4, [57, 59, 61, 63])), .inl (false, 8), .inr (.inr (3, [.inr false, .inr false, .inl 58])), .inl (true, 60), .inr (.inr (3, [.inr false, .inr false, .inl 60])), .inl (true, 60), .inr (.inr (3, [.inr false, .inr false, .inl 62])), .inl (true, 60), .inr (.inr (3, [.inr false, .inr false, .inl 64])), .inl (true, 60)]
theorem lx0 : LX[0]? = some (.inr (.inr (7, [.inl 1, .inl 7, .inl 13, .inr false, .inl 16, .inl 23, .inl 29, .inl 41, .inr false, .inr true, .inl 53, .inl 55, .inl 56]))) := rfl
theorem lx1 : LX[1]? = some (.inr (.inr (2, [.inr false, .inl 2, .inl 3, .inl 4, .inl 5, .inl 6, .inr false]))) := rfl
theorem lx2 : LX[2]? = some (.inl (false, 84)) := rfl
theorem lx3 : LX[3]? = some (.inl (false, 48)) := rfl
theorem lx4 : LX[4]? = some (.inl (false, 6)) := rfl
theorem lx5 : LX[5]? = some (.inl (false, 16)) := rfl
theorem lx6 : LX[6]? = some (.inl (false, 48)) := rfl
theorem lx7 : LX[7]? = some (.inr (.inr (2, [.inr false, .inl 8, .inl 9, .inl 10, .inl 11, .inl 12, .inr false]))) := rfl
theorem lx8 : LX[8]? = some (.inl (false, 84)) := rfl
theorem lx9 : LX[9]? = some (.inl (false, 48)) := rfl
theorem lx10 : LX[10]? = some (.inl (false, 6)) := rfl
theorem lx11 : LX[11]? = some (.inl (false, 16)) := rfl
theorem lx12 : LX[12]? = some (.inl (false, 48)) := rfl
theorem lx13 : LX[13]? = some (.inr (.inr (1, [.inr false, .inl 14, .inl 15]))) := rfl
theorem lx14 : LX[14]? = some (.inl (false, 1440)) := rfl
theorem lx15 : LX[15]? = some (.inl (false, 17)) := rfl
theorem lx16 : LX[16]? = some (.inr (.inr (0, [.inr false, .inr false, .inl 17, .inl 18, .inl 19, .inl 20, .inl 21, .inl 22]))) := rfl
theorem lx17 : LX[17]? = some (.inl (false, 48)) := rfl
theorem lx18 : LX[18]? = some (.inl (false, 48)) := rfl
theorem lx19 : LX[19]? = some (.inl (false, 48)) := rfl
theorem lx20 : LX[20]? = some (.inl (false, 48)) := rfl
theorem lx21 : LX[21]? = some (.inl (true, 48)) := rfl
theorem lx22 : LX[22]? = some (.inl (false, 48)) := rfl
theorem lx23 : LX[23]? = some (.inr (.inr (5, [.inr false, .inl 24, .inl 25, .inl 26, .inl 27, .inl 28]))) := rfl
theorem lx24 : LX[24]? = some (.inl (true, 1296)) := rfl
theorem lx25 : LX[25]? = some (.inl (false, 4)) := rfl
theorem lx26 : LX[26]? = some (.inl (false, 4)) := rfl
theorem lx27 : LX[27]? = some (.inl (false, 48)) := rfl
theorem lx28 : LX[28]? = some (.inl (true, 52)) := rfl
theorem lx29 : LX[29]? = some (.inr (.inr (6, [.inl 30, .inl 31, .inl 32, .inl 33, .inl 34, .inl 35, .inl 36, .inl 37, .inl 38, .inr false]))) := rfl
theorem lx30 : LX[30]? = some (.inl (false, 16)) := rfl
theorem lx31 : LX[31]? = some (.inl (false, 16)) := rfl
theorem lx32 : LX[32]? = some (.inl (false, 16)) := rfl
theorem lx33 : LX[33]? = some (.inl (false, 16)) := rfl
theorem lx34 : LX[34]? = some (.inl (false, 16)) := rfl
theorem lx35 : LX[35]? = some (.inl (false, 16)) := rfl
theorem lx36 : LX[36]? = some (.inl (false, 16)) := rfl
theorem lx37 : LX[37]? = some (.inl (false, 256)) := rfl
theorem lx38 : LX[38]? = some (.inr (.inr (1, [.inr false, .inl 39, .inl 40]))) := rfl
theorem lx39 : LX[39]? = some (.inl (false, 1440)) := rfl
theorem lx40 : LX[40]? = some (.inl (false, 17)) := rfl
theorem lx41 : LX[41]? = some (.inr (.inr (6, [.inl 42, .inl 43, .inl 44, .inl 45, .inl 46, .inl 47, .inl 48, .inl 49, .inl 50, .inr false]))) := rfl
theorem lx42 : LX[42]? = some (.inl (false, 16)) := rfl
theorem lx43 : LX[43]? = some (.inl (false, 16)) := rfl
theorem lx44 : LX[44]? = some (.inl (false, 16)) := rfl
theorem lx45 : LX[45]? = some (.inl (false, 16)) := rfl
theorem lx46 : LX[46]? = some (.inl (false, 16)) := rfl
theorem lx47 : LX[47]? = some (.inl (false, 16)) := rfl
theorem lx48 : LX[48]? = some (.inl (false, 16)) := rfl
theorem lx49 : LX[49]? = some (.inl (false, 256)) := rfl
theorem lx50 : LX[50]? = some (.inr (.inr (1, [.inr false, .inl 51, .inl 52]))) := rfl
theorem lx51 : LX[51]? = some (.inl (false, 1440)) := rfl
theorem lx52 : LX[52]? = some (.inl (false, 17)) := rfl
theorem lx53 : LX[53]? = some (.inr (.inr (4, [.inl 54, .inr false]))) := rfl
theorem lx54 : LX[54]? = some (.inl (false, 120)) := rfl
theorem lx55 : LX[55]? = some (.inr (.inl (4, [57, 59, 61, 63]))) := rfl
theorem lx56 : LX[56]? = some (.inl (false, 8)) := rfl
theorem lx57 : LX[57]? = some (.inr (.inr (3, [.inr false, .inr false, .inl 58]))) := rfl
theorem lx58 : LX[58]? = some (.inl (true, 60)) := rfl
theorem lx59 : LX[59]? = some (.inr (.inr (3, [.inr false, .inr false, .inl 60]))) := rfl
theorem lx60 : LX[60]? = some (.inl (true, 60)) := rfl
theorem lx61 : LX[61]? = some (.inr (.inr (3, [.inr false, .inr false, .inl 62]))) := rfl
theorem lx62 : LX[62]? = some (.inl (true, 60)) := rfl
theorem lx63 : LX[63]? = some (.inr (.inr (3, [.inr false, .inr false, .inl 64]))) := rfl
theorem lx64 : LX[64]? = some (.inl (true, 60)) := rfl
def LM : List LC := [.inr (.inr (8, [.inl 1, .inl 2, .inl 3, .inr false, .inl 4, .inr false, .inl 5, .inl 6, .inl 7, .inl 8, .inl 9, .inl 10, .inr false, .inl 11, .inl 12, .inr false, .inl 13, .inl 14, .inl 15, .inl 16, .inl 17, .inr false, .inl 18, .inl 19, .inl 20, .inl 21, .inr true, .inl 22, .inl 23, .inl 24, .inl 25, .inl 26, .inl 27])), .inl (false, 204), .inl (false, 204), .inl (false, 204), .inl (false, 8), .inl (false, 48), .inl (false, 48), .inl (false, 48), .inl (false, 48), .inl (true, 48), .inl (false, 120), .inl (false, 16), .inl (false, 16), .inl (false, 800), .inl (false, 800), .inl (false, 800), .inl (false, 800), .inl (false, 800), .inl (false, 800), .inl (false, 800), .inl (false, 800), .inl (false, 48), .inl (false, 8192), .inl (true, 8192), .inl (false, 4), .inl (false, 4), .inl (true, 240), .inl (false, 12800)]
theorem lm0 : LM[0]? = some (.inr (.inr (8, [.inl 1, .inl 2, .inl 3, .inr false, .inl 4, .inr false, .inl 5, .inl 6, .inl 7, .inl 8, .inl 9, .inl 10, .inr false, .inl 11, .inl 12, .inr false, .inl 13, .inl 14, .inl 15, .inl 16, .inl 17, .inr false, .inl 18, .inl 19, .inl 20, .inl 21, .inr true, .inl 22, .inl 23, .inl 24, .inl 25, .inl 26, .inl 27]))) := rfl
theorem lm1 : LM[1]? = some (.inl (false, 204)) := rfl
theorem lm2 : LM[2]? = some (.inl (false, 204)) := rfl
theorem lm3 : LM[3]? = some (.inl (false, 204)) := rfl
theorem lm4 : LM[4]? = some (.inl (false, 8)) := rfl
theorem lm5 : LM[5]? = some (.inl (false, 48)) := rfl
theorem lm6 : LM[6]? = some (.inl (false, 48)) := rfl
theorem lm7 : LM[7]? = some (.inl (false, 48)) := rfl
theorem lm8 : LM[8]? = some (.inl (false, 48)) := rfl
theorem lm9 : LM[9]? = some (.inl (true, 48)) := rfl
theorem lm10 : LM[10]? = some (.inl (false, 120)) := rfl
theorem lm11 : LM[11]? = some (.inl (false, 16)) := rfl
theorem lm12 : LM[12]? = some (.inl (false, 16)) := rfl
theorem lm13 : LM[13]? = some (.inl (false, 800)) := rfl
theorem lm14 : LM[14]? = some (.inl (false, 800)) := rfl
theorem lm15 : LM[15]? = some (.inl (false, 800)) := rfl
theorem lm16 : LM[16]? = some (.inl (false, 800)) := rfl
theorem lm17 : LM[17]? = some (.inl (false, 800)) := rfl
theorem lm18 : LM[18]? = some (.inl (false, 800)) := rfl
theorem lm19 : LM[19]? = some (.inl (false, 800)) := rfl
theorem lm20 : LM[20]? = some (.inl (false, 800)) := rfl
theorem lm21 : LM[21]? = some (.inl (false, 48)) := rfl
theorem lm22 : LM[22]? = some (.inl (false, 8192)) := rfl
theorem lm23 : LM[23]? = some (.inl (true, 8192)) := rfl
theorem lm24 : LM[24]? = some (.inl (false, 4)) := rfl
theorem lm25 : LM[25]? = some (.inl (false, 4)) := rfl
theorem lm26 : LM[26]? = some (.inl (true, 240)) := rfl
theorem lm27 : LM[27]? = some (.inl (false, 12800)) := rfl
def isWeave (o : Nat) : Prop := o = 29 ∨ o = 41
theorem lfWeave0 {o : Nat} (h : isWeave o) : LX[o + 0]? = some (.inr (.inr (6, [.inl (o + 1), .inl (o + 2), .inl (o + 3), .inl (o + 4), .inl (o + 5), .inl (o + 6), .inl (o + 7), .inl (o + 8), .inl (o + 9), .inr false]))) := by
  rcases h with rfl | rfl <;> rfl
theorem lfWeave1 {o : Nat} (h : isWeave o) : LX[o + 1]? = some (.inl (false, 16)) := by
  rcases h with rfl | rfl <;> rfl
theorem lfWeave2 {o : Nat} (h : isWeave o) : LX[o + 2]? = some (.inl (false, 16)) := by
  rcases h with rfl | rfl <;> rfl
theorem lfWeave3 {o : Nat} (h : isWeave o) : LX[o + 3]? = some (.inl (false, 16)) := by
  rcases h with rfl | rfl <;> rfl
theorem lfWeave4 {o : Nat} (h : isWeave o) : LX[o + 4]? = some (.inl (false, 16)) := by
  rcases h with rfl | rfl <;> rfl
theorem lfWeave5 {o : Nat} (h : isWeave o) : LX[o + 5]? = some (.inl (false, 16)) := by
  rcases h with rfl | rfl <;> rfl
theorem lfWeave6 {o : Nat} (h : isWeave o) : LX[o + 6]? = some (.inl (false, 16)) := by
  rcases h with rfl | rfl <;> rfl
theorem lfWeave7 {o : Nat} (h : isWeave o) : LX[o + 7]? = some (.inl (false, 16)) := by
  rcases h with rfl | rfl <;> rfl
theorem lfWeave8 {o : Nat} (h : isWeave o) : LX[o + 8]? = some (.inl (false, 256)) := by
  rcases h with rfl | rfl <;> rfl
theorem lfWeave9 {o : Nat} (h : isWeave o) : LX[o + 9]? = some (.inr (.inr (1, [.inr false, .inl (o + 10), .inl (o + 11)]))) := by
  rcases h with rfl | rfl <;> rfl
theorem lfWeave10 {o : Nat} (h : isWeave o) : LX[o + 10]? = some (.inl (false, 1440)) := by
  rcases h with rfl | rfl <;> rfl
theorem lfWeave11 {o : Nat} (h : isWeave o) : LX[o + 11]? = some (.inl (false, 17)) := by
  rcases h with rfl | rfl <;> rfl
theorem lfWeave {o : Nat} (h : isWeave o) : LX[o]? = some (.inr (.inr (6, [.inl (o + 1), .inl (o + 2), .inl (o + 3), .inl (o + 4), .inl (o + 5), .inl (o + 6), .inl (o + 7), .inl (o + 8), .inl (o + 9), .inr false]))) := lfWeave0 h
def isHeap (o : Nat) : Prop := o = 13 ∨ o = 38 ∨ o = 50
theorem lfHeap0 {o : Nat} (h : isHeap o) : LX[o + 0]? = some (.inr (.inr (1, [.inr false, .inl (o + 1), .inl (o + 2)]))) := by
  rcases h with rfl | rfl | rfl <;> rfl
theorem lfHeap1 {o : Nat} (h : isHeap o) : LX[o + 1]? = some (.inl (false, 1440)) := by
  rcases h with rfl | rfl | rfl <;> rfl
theorem lfHeap2 {o : Nat} (h : isHeap o) : LX[o + 2]? = some (.inl (false, 17)) := by
  rcases h with rfl | rfl | rfl <;> rfl
theorem lfHeap {o : Nat} (h : isHeap o) : LX[o]? = some (.inr (.inr (1, [.inr false, .inl (o + 1), .inl (o + 2)]))) := lfHeap0 h
def isPlan (o : Nat) : Prop := o = 1 ∨ o = 7
theorem lfPlan0 {o : Nat} (h : isPlan o) : LX[o + 0]? = some (.inr (.inr (2, [.inr false, .inl (o + 1), .inl (o + 2), .inl (o + 3), .inl (o + 4), .inl (o + 5), .inr false]))) := by
  rcases h with rfl | rfl <;> rfl
theorem lfPlan1 {o : Nat} (h : isPlan o) : LX[o + 1]? = some (.inl (false, 84)) := by
  rcases h with rfl | rfl <;> rfl
theorem lfPlan2 {o : Nat} (h : isPlan o) : LX[o + 2]? = some (.inl (false, 48)) := by
  rcases h with rfl | rfl <;> rfl
theorem lfPlan3 {o : Nat} (h : isPlan o) : LX[o + 3]? = some (.inl (false, 6)) := by
  rcases h with rfl | rfl <;> rfl
theorem lfPlan4 {o : Nat} (h : isPlan o) : LX[o + 4]? = some (.inl (false, 16)) := by
  rcases h with rfl | rfl <;> rfl
theorem lfPlan5 {o : Nat} (h : isPlan o) : LX[o + 5]? = some (.inl (false, 48)) := by
  rcases h with rfl | rfl <;> rfl
theorem lfPlan {o : Nat} (h : isPlan o) : LX[o]? = some (.inr (.inr (2, [.inr false, .inl (o + 1), .inl (o + 2), .inl (o + 3), .inl (o + 4), .inl (o + 5), .inr false]))) := lfPlan0 h
def isSheet (o : Nat) : Prop := o = 57 ∨ o = 59 ∨ o = 61 ∨ o = 63
theorem lfSheet0 {o : Nat} (h : isSheet o) : LX[o + 0]? = some (.inr (.inr (3, [.inr false, .inr false, .inl (o + 1)]))) := by
  rcases h with rfl | rfl | rfl | rfl <;> rfl
theorem lfSheet1 {o : Nat} (h : isSheet o) : LX[o + 1]? = some (.inl (true, 60)) := by
  rcases h with rfl | rfl | rfl | rfl <;> rfl
theorem lfSheet {o : Nat} (h : isSheet o) : LX[o]? = some (.inr (.inr (3, [.inr false, .inr false, .inl (o + 1)]))) := lfSheet0 h
theorem cX0 : vwCl[0]? = some (RX0, TX0, 8) := rfl
theorem cX1 : vwCl[1]? = some (RX1, TX1, 3) := rfl
theorem cX2 : vwCl[2]? = some (RX2, TX2, 7) := rfl
theorem cX3 : vwCl[3]? = some (RX3, TX3, 3) := rfl
theorem cX4 : vwCl[4]? = some (RX4, TX4, 2) := rfl
theorem cX5 : vwCl[5]? = some (RX5, TX5, 6) := rfl
theorem cX6 : vwCl[6]? = some (RX6, TX6, 10) := rfl
theorem cX7 : vwCl[7]? = some (RX7, TX7, 13) := rfl
theorem cX8 : vwCl[8]? = some (RX8, TX8, 33) := rfl
theorem isWeave29 : isWeave 29 := Or.inl rfl
theorem isWeave41 : isWeave 41 := Or.inr rfl
theorem isHeap13 : isHeap 13 := Or.inl rfl
theorem isHeap38 : isHeap 38 := Or.inr (Or.inl rfl)
theorem isHeap50 : isHeap 50 := Or.inr (Or.inr rfl)
theorem isPlan1 : isPlan 1 := Or.inl rfl
theorem isPlan7 : isPlan 7 := Or.inr rfl
theorem isSheet57 : isSheet 57 := Or.inl rfl
theorem isSheet59 : isSheet 59 := Or.inr (Or.inl rfl)
theorem isSheet61 : isSheet 61 := Or.inr (Or.inr (Or.inl rfl))
theorem isSheet63 : isSheet 63 := Or.inr (Or.inr (Or.inr rfl))
theorem hpWv {o : Nat} (h : isWeave o) : isHeap (o + 9) := by
  rcases h with rfl | rfl
  · exact isHeap38
  · exact isHeap50
theorem sh_at {j : Int} (h : 0 ≤ j ∧ j < 4) : ∃ q : Nat, ([57, 59, 61, 63] : List Nat)[j.toNat]? = some q ∧ (q : Int) = 57 + 2 * j ∧ isSheet q := by
  have : j = 0 ∨ j = 1 ∨ j = 2 ∨ j = 3 := by omega
  rcases this with rfl | rfl | rfl | rfl
  · exact ⟨57, rfl, rfl, isSheet57⟩
  · exact ⟨59, rfl, rfl, isSheet59⟩
  · exact ⟨61, rfl, rfl, isSheet61⟩
  · exact ⟨63, rfl, rfl, isSheet63⟩
theorem k32_m10 : i32 (-10) = (-10) := by decide +kernel
theorem k32_m2 : i32 (-2) = (-2) := by decide +kernel
theorem k32_m1 : i32 (-1) = (-1) := by decide +kernel
theorem k32_0 : i32 0 = 0 := by decide +kernel
theorem k32_1 : i32 1 = 1 := by decide +kernel
theorem k32_2 : i32 2 = 2 := by decide +kernel
theorem k32_3 : i32 3 = 3 := by decide +kernel
theorem k32_4 : i32 4 = 4 := by decide +kernel
theorem k32_6 : i32 6 = 6 := by decide +kernel
theorem k32_7 : i32 7 = 7 := by decide +kernel
theorem k32_8 : i32 8 = 8 := by decide +kernel
theorem k32_9 : i32 9 = 9 := by decide +kernel
theorem k32_10 : i32 10 = 10 := by decide +kernel
theorem k32_11 : i32 11 = 11 := by decide +kernel
theorem k32_12 : i32 12 = 12 := by decide +kernel
theorem k32_13 : i32 13 = 13 := by decide +kernel
theorem k32_15 : i32 15 = 15 := by decide +kernel
theorem k32_16 : i32 16 = 16 := by decide +kernel
theorem k32_17 : i32 17 = 17 := by decide +kernel
theorem k32_20 : i32 20 = 20 := by decide +kernel
theorem k32_32 : i32 32 = 32 := by decide +kernel
theorem k32_46 : i32 46 = 46 := by decide +kernel
theorem k32_47 : i32 47 = 47 := by decide +kernel
theorem k32_48 : i32 48 = 48 := by decide +kernel
theorem k32_60 : i32 60 = 60 := by decide +kernel
theorem k32_67 : i32 67 = 67 := by decide +kernel
theorem k32_84 : i32 84 = 84 := by decide +kernel
theorem k32_86 : i32 86 = 86 := by decide +kernel
theorem k32_96 : i32 96 = 96 := by decide +kernel
theorem k32_97 : i32 97 = 97 := by decide +kernel
theorem k32_99 : i32 99 = 99 := by decide +kernel
theorem k32_102 : i32 102 = 102 := by decide +kernel
theorem k32_116 : i32 116 = 116 := by decide +kernel
theorem k32_120 : i32 120 = 120 := by decide +kernel
theorem k32_127 : i32 127 = 127 := by decide +kernel
theorem k32_140 : i32 140 = 140 := by decide +kernel
theorem k32_156 : i32 156 = 156 := by decide +kernel
theorem k32_204 : i32 204 = 204 := by decide +kernel
theorem k32_255 : i32 255 = 255 := by decide +kernel
theorem k32_1296 : i32 1296 = 1296 := by decide +kernel
theorem k32_1440 : i32 1440 = 1440 := by decide +kernel
theorem k32_8192 : i32 8192 = 8192 := by decide +kernel
theorem k32_9999 : i32 9999 = 9999 := by decide +kernel
theorem k32_12800 : i32 12800 = 12800 := by decide +kernel
theorem k64_m2 : i64 (-2) = (-2) := by decide +kernel
theorem k64_0 : i64 0 = 0 := by decide +kernel
theorem k64_1 : i64 1 = 1 := by decide +kernel
theorem hd_bitCount : yJ13_bitCount_95d88.cls ≠ "java/lang/invoke/MethodHandle" ∧ yJ13_bitCount_95d88.cls ≠ "java/lang/invoke/VarHandle" ∧ (parseMethodDescriptor yJ13_bitCount_95d88.desc).map (fun d => d.parameters.length) = some 1 := by decide +kernel
theorem hd_fillI : yJ7_fill_53178.cls ≠ "java/lang/invoke/MethodHandle" ∧ yJ7_fill_53178.cls ≠ "java/lang/invoke/VarHandle" ∧ (parseMethodDescriptor yJ7_fill_53178.desc).map (fun d => d.parameters.length) = some 2 := by decide +kernel
theorem hd_fillJ : yJ7_fill_d0a16.cls ≠ "java/lang/invoke/MethodHandle" ∧ yJ7_fill_d0a16.cls ≠ "java/lang/invoke/VarHandle" ∧ (parseMethodDescriptor yJ7_fill_d0a16.desc).map (fun d => d.parameters.length) = some 2 := by decide +kernel
theorem hd_Ground_countBehind : yX0_countBehind.cls = RX0 ∧ yX0_countBehind.cls ≠ "java/lang/invoke/MethodHandle" ∧ yX0_countBehind.cls ≠ "java/lang/invoke/VarHandle" ∧ (parseMethodDescriptor yX0_countBehind.desc).map (fun d => d.parameters.length) = some 1 := by decide +kernel
theorem hd_Ground_countFree : yX0_countFree.cls = RX0 ∧ yX0_countFree.cls ≠ "java/lang/invoke/MethodHandle" ∧ yX0_countFree.cls ≠ "java/lang/invoke/VarHandle" ∧ (parseMethodDescriptor yX0_countFree.desc).map (fun d => d.parameters.length) = some 1 := by decide +kernel
theorem hd_Ground_enter : yX0_enter.cls = RX0 ∧ yX0_enter.cls ≠ "java/lang/invoke/MethodHandle" ∧ yX0_enter.cls ≠ "java/lang/invoke/VarHandle" ∧ (parseMethodDescriptor yX0_enter.desc).map (fun d => d.parameters.length) = some 3 := by decide +kernel
theorem hd_Ground_gather : yX0_gather.cls = RX0 ∧ yX0_gather.cls ≠ "java/lang/invoke/MethodHandle" ∧ yX0_gather.cls ≠ "java/lang/invoke/VarHandle" ∧ (parseMethodDescriptor yX0_gather.desc).map (fun d => d.parameters.length) = some 1 := by decide +kernel
theorem hd_Ground_isFree : yX0_isFree.cls = RX0 ∧ yX0_isFree.cls ≠ "java/lang/invoke/MethodHandle" ∧ yX0_isFree.cls ≠ "java/lang/invoke/VarHandle" ∧ (parseMethodDescriptor yX0_isFree.desc).map (fun d => d.parameters.length) = some 2 := by decide +kernel
theorem hd_Ground_leads : yX0_leads.cls = RX0 ∧ yX0_leads.cls ≠ "java/lang/invoke/MethodHandle" ∧ yX0_leads.cls ≠ "java/lang/invoke/VarHandle" ∧ (parseMethodDescriptor yX0_leads.desc).map (fun d => d.parameters.length) = some 2 := by decide +kernel
theorem hd_Ground_leastFree : yX0_leastFree.cls = RX0 ∧ yX0_leastFree.cls ≠ "java/lang/invoke/MethodHandle" ∧ yX0_leastFree.cls ≠ "java/lang/invoke/VarHandle" ∧ (parseMethodDescriptor yX0_leastFree.desc).map (fun d => d.parameters.length) = some 1 := by decide +kernel
theorem hd_Ground_longestChain : yX0_longestChain.cls = RX0 ∧ yX0_longestChain.cls ≠ "java/lang/invoke/MethodHandle" ∧ yX0_longestChain.cls ≠ "java/lang/invoke/VarHandle" ∧ (parseMethodDescriptor yX0_longestChain.desc).map (fun d => d.parameters.length) = some 0 := by decide +kernel
theorem hd_Ground_widest : yX0_widest.cls = RX0 ∧ yX0_widest.cls ≠ "java/lang/invoke/MethodHandle" ∧ yX0_widest.cls ≠ "java/lang/invoke/VarHandle" ∧ (parseMethodDescriptor yX0_widest.desc).map (fun d => d.parameters.length) = some 0 := by decide +kernel
theorem hd_Ground_widestLeftOf : yX0_widestLeftOf.cls = RX0 ∧ yX0_widestLeftOf.cls ≠ "java/lang/invoke/MethodHandle" ∧ yX0_widestLeftOf.cls ≠ "java/lang/invoke/VarHandle" ∧ (parseMethodDescriptor yX0_widestLeftOf.desc).map (fun d => d.parameters.length) = some 1 := by decide +kernel
theorem hd_Heap_add : yX1_add.cls = RX1 ∧ yX1_add.cls ≠ "java/lang/invoke/MethodHandle" ∧ yX1_add.cls ≠ "java/lang/invoke/VarHandle" ∧ (parseMethodDescriptor yX1_add.desc).map (fun d => d.parameters.length) = some 2 := by decide +kernel
theorem hd_Heap_clear : yX1_clear.cls = RX1 ∧ yX1_clear.cls ≠ "java/lang/invoke/MethodHandle" ∧ yX1_clear.cls ≠ "java/lang/invoke/VarHandle" ∧ (parseMethodDescriptor yX1_clear.desc).map (fun d => d.parameters.length) = some 0 := by decide +kernel
theorem hd_Heap_copyFrom : yX1_copyFrom.cls = RX1 ∧ yX1_copyFrom.cls ≠ "java/lang/invoke/MethodHandle" ∧ yX1_copyFrom.cls ≠ "java/lang/invoke/VarHandle" ∧ (parseMethodDescriptor yX1_copyFrom.desc).map (fun d => d.parameters.length) = some 1 := by decide +kernel
theorem hd_Heap_countLayers : yX1_countLayers.cls = RX1 ∧ yX1_countLayers.cls ≠ "java/lang/invoke/MethodHandle" ∧ yX1_countLayers.cls ≠ "java/lang/invoke/VarHandle" ∧ (parseMethodDescriptor yX1_countLayers.desc).map (fun d => d.parameters.length) = some 0 := by decide +kernel
theorem hd_Heap_countSign : yX1_countSign.cls = RX1 ∧ yX1_countSign.cls ≠ "java/lang/invoke/MethodHandle" ∧ yX1_countSign.cls ≠ "java/lang/invoke/VarHandle" ∧ (parseMethodDescriptor yX1_countSign.desc).map (fun d => d.parameters.length) = some 1 := by decide +kernel
theorem hd_Heap_isAs : yX1_isAs.cls = RX1 ∧ yX1_isAs.cls ≠ "java/lang/invoke/MethodHandle" ∧ yX1_isAs.cls ≠ "java/lang/invoke/VarHandle" ∧ (parseMethodDescriptor yX1_isAs.desc).map (fun d => d.parameters.length) = some 1 := by decide +kernel
theorem hd_Heap_signAt : yX1_signAt.cls = RX1 ∧ yX1_signAt.cls ≠ "java/lang/invoke/MethodHandle" ∧ yX1_signAt.cls ≠ "java/lang/invoke/VarHandle" ∧ (parseMethodDescriptor yX1_signAt.desc).map (fun d => d.parameters.length) = some 2 := by decide +kernel
theorem hd_Heap_takeTop : yX1_takeTop.cls = RX1 ∧ yX1_takeTop.cls ≠ "java/lang/invoke/MethodHandle" ∧ yX1_takeTop.cls ≠ "java/lang/invoke/VarHandle" ∧ (parseMethodDescriptor yX1_takeTop.desc).map (fun d => d.parameters.length) = some 2 := by decide +kernel
theorem hd_Plan_copyFrom : yX2_copyFrom.cls = RX2 ∧ yX2_copyFrom.cls ≠ "java/lang/invoke/MethodHandle" ∧ yX2_copyFrom.cls ≠ "java/lang/invoke/VarHandle" ∧ (parseMethodDescriptor yX2_copyFrom.desc).map (fun d => d.parameters.length) = some 1 := by decide +kernel
theorem hd_Plan_crossingsOf : yX2_crossingsOf.cls = RX2 ∧ yX2_crossingsOf.cls ≠ "java/lang/invoke/MethodHandle" ∧ yX2_crossingsOf.cls ≠ "java/lang/invoke/VarHandle" ∧ (parseMethodDescriptor yX2_crossingsOf.desc).map (fun d => d.parameters.length) = some 1 := by decide +kernel
theorem hd_Plan_fits : yX2_fits.cls = RX2 ∧ yX2_fits.cls ≠ "java/lang/invoke/MethodHandle" ∧ yX2_fits.cls ≠ "java/lang/invoke/VarHandle" ∧ (parseMethodDescriptor yX2_fits.desc).map (fun d => d.parameters.length) = some 4 := by decide +kernel
theorem hd_Plan_fitsCell : yX2_fitsCell.cls ≠ "java/lang/invoke/MethodHandle" ∧ yX2_fitsCell.cls ≠ "java/lang/invoke/VarHandle" ∧ (parseMethodDescriptor yX2_fitsCell.desc).map (fun d => d.parameters.length) = some 2 := by decide +kernel
theorem hd_Plan_repeatsBy : yX2_repeatsBy.cls = RX2 ∧ yX2_repeatsBy.cls ≠ "java/lang/invoke/MethodHandle" ∧ yX2_repeatsBy.cls ≠ "java/lang/invoke/VarHandle" ∧ (parseMethodDescriptor yX2_repeatsBy.desc).map (fun d => d.parameters.length) = some 2 := by decide +kernel
theorem hd_Sheet_begin : yX3_begin.cls = RX3 ∧ yX3_begin.cls ≠ "java/lang/invoke/MethodHandle" ∧ yX3_begin.cls ≠ "java/lang/invoke/VarHandle" ∧ (parseMethodDescriptor yX3_begin.desc).map (fun d => d.parameters.length) = some 2 := by decide +kernel
theorem hd_Sheet_cut : yX3_cut.cls = RX3 ∧ yX3_cut.cls ≠ "java/lang/invoke/MethodHandle" ∧ yX3_cut.cls ≠ "java/lang/invoke/VarHandle" ∧ (parseMethodDescriptor yX3_cut.desc).map (fun d => d.parameters.length) = some 1 := by decide +kernel
theorem hd_Sheet_has : yX3_has.cls = RX3 ∧ yX3_has.cls ≠ "java/lang/invoke/MethodHandle" ∧ yX3_has.cls ≠ "java/lang/invoke/VarHandle" ∧ (parseMethodDescriptor yX3_has.desc).map (fun d => d.parameters.length) = some 1 := by decide +kernel
theorem hd_Tape_prickInto : yX4_prickInto.cls = RX4 ∧ yX4_prickInto.cls ≠ "java/lang/invoke/MethodHandle" ∧ yX4_prickInto.cls ≠ "java/lang/invoke/VarHandle" ∧ (parseMethodDescriptor yX4_prickInto.desc).map (fun d => d.parameters.length) = some 1 := by decide +kernel
theorem hd_Tape_prickingFault : yX4_prickingFault.cls = RX4 ∧ yX4_prickingFault.cls ≠ "java/lang/invoke/MethodHandle" ∧ yX4_prickingFault.cls ≠ "java/lang/invoke/VarHandle" ∧ (parseMethodDescriptor yX4_prickingFault.desc).map (fun d => d.parameters.length) = some 1 := by decide +kernel
theorem hd_Tape_spellInto : yX4_spellInto.cls = RX4 ∧ yX4_spellInto.cls ≠ "java/lang/invoke/MethodHandle" ∧ yX4_spellInto.cls ≠ "java/lang/invoke/VarHandle" ∧ (parseMethodDescriptor yX4_spellInto.desc).map (fun d => d.parameters.length) = some 2 := by decide +kernel
theorem hd_Tape_wordFault : yX4_wordFault.cls = RX4 ∧ yX4_wordFault.cls ≠ "java/lang/invoke/MethodHandle" ∧ yX4_wordFault.cls ≠ "java/lang/invoke/VarHandle" ∧ (parseMethodDescriptor yX4_wordFault.desc).map (fun d => d.parameters.length) = some 0 := by decide +kernel
theorem hd_Ways_bitsOf : yX5_bitsOf.cls = RX5 ∧ yX5_bitsOf.cls ≠ "java/lang/invoke/MethodHandle" ∧ yX5_bitsOf.cls ≠ "java/lang/invoke/VarHandle" ∧ (parseMethodDescriptor yX5_bitsOf.desc).map (fun d => d.parameters.length) = some 2 := by decide +kernel
theorem hd_Ways_countOf : yX5_countOf.cls = RX5 ∧ yX5_countOf.cls ≠ "java/lang/invoke/MethodHandle" ∧ yX5_countOf.cls ≠ "java/lang/invoke/VarHandle" ∧ (parseMethodDescriptor yX5_countOf.desc).map (fun d => d.parameters.length) = some 1 := by decide +kernel
theorem hd_Ways_numberOf : yX5_numberOf.cls = RX5 ∧ yX5_numberOf.cls ≠ "java/lang/invoke/MethodHandle" ∧ yX5_numberOf.cls ≠ "java/lang/invoke/VarHandle" ∧ (parseMethodDescriptor yX5_numberOf.desc).map (fun d => d.parameters.length) = some 2 := by decide +kernel
theorem hd_Ways_onward : yX5_onward.cls = RX5 ∧ yX5_onward.cls ≠ "java/lang/invoke/MethodHandle" ∧ yX5_onward.cls ≠ "java/lang/invoke/VarHandle" ∧ (parseMethodDescriptor yX5_onward.desc).map (fun d => d.parameters.length) = some 5 := by decide +kernel
theorem hd_Ways_reckon : yX5_reckon.cls = RX5 ∧ yX5_reckon.cls ≠ "java/lang/invoke/MethodHandle" ∧ yX5_reckon.cls ≠ "java/lang/invoke/VarHandle" ∧ (parseMethodDescriptor yX5_reckon.desc).map (fun d => d.parameters.length) = some 1 := by decide +kernel
theorem hd_Ways_reckonState : yX5_reckonState.cls = RX5 ∧ yX5_reckonState.cls ≠ "java/lang/invoke/MethodHandle" ∧ yX5_reckonState.cls ≠ "java/lang/invoke/VarHandle" ∧ (parseMethodDescriptor yX5_reckonState.desc).map (fun d => d.parameters.length) = some 5 := by decide +kernel
theorem hd_Ways_sortIntoLines : yX5_sortIntoLines.cls = RX5 ∧ yX5_sortIntoLines.cls ≠ "java/lang/invoke/MethodHandle" ∧ yX5_sortIntoLines.cls ≠ "java/lang/invoke/VarHandle" ∧ (parseMethodDescriptor yX5_sortIntoLines.desc).map (fun d => d.parameters.length) = some 1 := by decide +kernel
theorem hd_Ways_stitchOf : yX5_stitchOf.cls = RX5 ∧ yX5_stitchOf.cls ≠ "java/lang/invoke/MethodHandle" ∧ yX5_stitchOf.cls ≠ "java/lang/invoke/VarHandle" ∧ (parseMethodDescriptor yX5_stitchOf.desc).map (fun d => d.parameters.length) = some 3 := by decide +kernel
theorem hd_Ways_strideOf : yX5_strideOf.cls = RX5 ∧ yX5_strideOf.cls ≠ "java/lang/invoke/MethodHandle" ∧ yX5_strideOf.cls ≠ "java/lang/invoke/VarHandle" ∧ (parseMethodDescriptor yX5_strideOf.desc).map (fun d => d.parameters.length) = some 2 := by decide +kernel
theorem hd_Weave_clear : yX6_clear.cls = RX6 ∧ yX6_clear.cls ≠ "java/lang/invoke/MethodHandle" ∧ yX6_clear.cls ≠ "java/lang/invoke/VarHandle" ∧ (parseMethodDescriptor yX6_clear.desc).map (fun d => d.parameters.length) = some 0 := by decide +kernel
theorem hd_Weave_commonTurns : yX6_commonTurns.cls = RX6 ∧ yX6_commonTurns.cls ≠ "java/lang/invoke/MethodHandle" ∧ yX6_commonTurns.cls ≠ "java/lang/invoke/VarHandle" ∧ (parseMethodDescriptor yX6_commonTurns.desc).map (fun d => d.parameters.length) = some 0 := by decide +kernel
theorem hd_Weave_countAtHome : yX6_countAtHome.cls = RX6 ∧ yX6_countAtHome.cls ≠ "java/lang/invoke/MethodHandle" ∧ yX6_countAtHome.cls ≠ "java/lang/invoke/VarHandle" ∧ (parseMethodDescriptor yX6_countAtHome.desc).map (fun d => d.parameters.length) = some 1 := by decide +kernel
theorem hd_Weave_cross : yX6_cross.cls = RX6 ∧ yX6_cross.cls ≠ "java/lang/invoke/MethodHandle" ∧ yX6_cross.cls ≠ "java/lang/invoke/VarHandle" ∧ (parseMethodDescriptor yX6_cross.desc).map (fun d => d.parameters.length) = some 2 := by decide +kernel
theorem hd_Weave_haveCrossed : yX6_haveCrossed.cls = RX6 ∧ yX6_haveCrossed.cls ≠ "java/lang/invoke/MethodHandle" ∧ yX6_haveCrossed.cls ≠ "java/lang/invoke/VarHandle" ∧ (parseMethodDescriptor yX6_haveCrossed.desc).map (fun d => d.parameters.length) = some 2 := by decide +kernel
theorem hd_Weave_leastCommonMultiple : yX6_leastCommonMultiple.cls ≠ "java/lang/invoke/MethodHandle" ∧ yX6_leastCommonMultiple.cls ≠ "java/lang/invoke/VarHandle" ∧ (parseMethodDescriptor yX6_leastCommonMultiple.desc).map (fun d => d.parameters.length) = some 2 := by decide +kernel
theorem hd_Weave_leastLacking : yX6_leastLacking.cls = RX6 ∧ yX6_leastLacking.cls ≠ "java/lang/invoke/MethodHandle" ∧ yX6_leastLacking.cls ≠ "java/lang/invoke/VarHandle" ∧ (parseMethodDescriptor yX6_leastLacking.desc).map (fun d => d.parameters.length) = some 1 := by decide +kernel
theorem hd_Weave_make : yX6_make.cls = RX6 ∧ yX6_make.cls ≠ "java/lang/invoke/MethodHandle" ∧ yX6_make.cls ≠ "java/lang/invoke/VarHandle" ∧ (parseMethodDescriptor yX6_make.desc).map (fun d => d.parameters.length) = some 3 := by decide +kernel
theorem hd_Weave_noteSide : yX6_noteSide.cls = RX6 ∧ yX6_noteSide.cls ≠ "java/lang/invoke/MethodHandle" ∧ yX6_noteSide.cls ≠ "java/lang/invoke/VarHandle" ∧ (parseMethodDescriptor yX6_noteSide.desc).map (fun d => d.parameters.length) = some 2 := by decide +kernel
theorem hd_Weave_pass : yX6_pass.cls = RX6 ∧ yX6_pass.cls ≠ "java/lang/invoke/MethodHandle" ∧ yX6_pass.cls ≠ "java/lang/invoke/VarHandle" ∧ (parseMethodDescriptor yX6_pass.desc).map (fun d => d.parameters.length) = some 2 := by decide +kernel
theorem hd_Weave_sendHome : yX6_sendHome.cls = RX6 ∧ yX6_sendHome.cls ≠ "java/lang/invoke/MethodHandle" ∧ yX6_sendHome.cls ≠ "java/lang/invoke/VarHandle" ∧ (parseMethodDescriptor yX6_sendHome.desc).map (fun d => d.parameters.length) = some 0 := by decide +kernel
theorem hd_Weave_turnsOf : yX6_turnsOf.cls = RX6 ∧ yX6_turnsOf.cls ≠ "java/lang/invoke/MethodHandle" ∧ yX6_turnsOf.cls ≠ "java/lang/invoke/VarHandle" ∧ (parseMethodDescriptor yX6_turnsOf.desc).map (fun d => d.parameters.length) = some 1 := by decide +kernel
theorem hd_P_beginAnew : yX7_beginAnew.cls = RX7 ∧ yX7_beginAnew.cls ≠ "java/lang/invoke/MethodHandle" ∧ yX7_beginAnew.cls ≠ "java/lang/invoke/VarHandle" ∧ (parseMethodDescriptor yX7_beginAnew.desc).map (fun d => d.parameters.length) = some 0 := by decide +kernel
theorem hd_P_fail : yX7_fail.cls = RX7 ∧ yX7_fail.cls ≠ "java/lang/invoke/MethodHandle" ∧ yX7_fail.cls ≠ "java/lang/invoke/VarHandle" ∧ (parseMethodDescriptor yX7_fail.desc).map (fun d => d.parameters.length) = some 1 := by decide +kernel
theorem hd_P_failLong : yX7_failLong.cls = RX7 ∧ yX7_failLong.cls ≠ "java/lang/invoke/MethodHandle" ∧ yX7_failLong.cls ≠ "java/lang/invoke/VarHandle" ∧ (parseMethodDescriptor yX7_failLong.desc).map (fun d => d.parameters.length) = some 1 := by decide +kernel
theorem hd_P_holds : yX7_holds.cls = RX7 ∧ yX7_holds.cls ≠ "java/lang/invoke/MethodHandle" ∧ yX7_holds.cls ≠ "java/lang/invoke/VarHandle" ∧ (parseMethodDescriptor yX7_holds.desc).map (fun d => d.parameters.length) = some 2 := by decide +kernel
theorem hd_P_isCell : yX7_isCell.cls = RX7 ∧ yX7_isCell.cls ≠ "java/lang/invoke/MethodHandle" ∧ yX7_isCell.cls ≠ "java/lang/invoke/VarHandle" ∧ (parseMethodDescriptor yX7_isCell.desc).map (fun d => d.parameters.length) = some 2 := by decide +kernel
theorem hd_P_isKind : yX7_isKind.cls ≠ "java/lang/invoke/MethodHandle" ∧ yX7_isKind.cls ≠ "java/lang/invoke/VarHandle" ∧ (parseMethodDescriptor yX7_isKind.desc).map (fun d => d.parameters.length) = some 1 := by decide +kernel
theorem hd_P_isSheet : yX7_isSheet.cls ≠ "java/lang/invoke/MethodHandle" ∧ yX7_isSheet.cls ≠ "java/lang/invoke/VarHandle" ∧ (parseMethodDescriptor yX7_isSheet.desc).map (fun d => d.parameters.length) = some 1 := by decide +kernel
theorem hd_P_isStitch : yX7_isStitch.cls = RX7 ∧ yX7_isStitch.cls ≠ "java/lang/invoke/MethodHandle" ∧ yX7_isStitch.cls ≠ "java/lang/invoke/VarHandle" ∧ (parseMethodDescriptor yX7_isStitch.desc).map (fun d => d.parameters.length) = some 1 := by decide +kernel
theorem hd_P_isThread : yX7_isThread.cls = RX7 ∧ yX7_isThread.cls ≠ "java/lang/invoke/MethodHandle" ∧ yX7_isThread.cls ≠ "java/lang/invoke/VarHandle" ∧ (parseMethodDescriptor yX7_isThread.desc).map (fun d => d.parameters.length) = some 1 := by decide +kernel
theorem hd_P_noneIfBelow0 : yX7_noneIfBelow0.cls = RX7 ∧ yX7_noneIfBelow0.cls ≠ "java/lang/invoke/MethodHandle" ∧ yX7_noneIfBelow0.cls ≠ "java/lang/invoke/VarHandle" ∧ (parseMethodDescriptor yX7_noneIfBelow0.desc).map (fun d => d.parameters.length) = some 1 := by decide +kernel
theorem hd_P_regard : yX7_regard.cls = RX7 ∧ yX7_regard.cls ≠ "java/lang/invoke/MethodHandle" ∧ yX7_regard.cls ≠ "java/lang/invoke/VarHandle" ∧ (parseMethodDescriptor yX7_regard.desc).map (fun d => d.parameters.length) = some 0 := by decide +kernel
theorem hd_P_replay : yX7_replay.cls = RX7 ∧ yX7_replay.cls ≠ "java/lang/invoke/MethodHandle" ∧ yX7_replay.cls ≠ "java/lang/invoke/VarHandle" ∧ (parseMethodDescriptor yX7_replay.desc).map (fun d => d.parameters.length) = some 0 := by decide +kernel
theorem hd_P_sumOf : yX7_sumOf.cls ≠ "java/lang/invoke/MethodHandle" ∧ yX7_sumOf.cls ≠ "java/lang/invoke/VarHandle" ∧ (parseMethodDescriptor yX7_sumOf.desc).map (fun d => d.parameters.length) = some 2 := by decide +kernel
theorem hd_P_thinkStitches : yX7_thinkStitches.cls = RX7 ∧ yX7_thinkStitches.cls ≠ "java/lang/invoke/MethodHandle" ∧ yX7_thinkStitches.cls ≠ "java/lang/invoke/VarHandle" ∧ (parseMethodDescriptor yX7_thinkStitches.desc).map (fun d => d.parameters.length) = some 1 := by decide +kernel
theorem hd_P_thinkWord : yX7_thinkWord.cls = RX7 ∧ yX7_thinkWord.cls ≠ "java/lang/invoke/MethodHandle" ∧ yX7_thinkWord.cls ≠ "java/lang/invoke/VarHandle" ∧ (parseMethodDescriptor yX7_thinkWord.desc).map (fun d => d.parameters.length) = some 1 := by decide +kernel
theorem hd_P_tryStitch : yX7_tryStitch.cls = RX7 ∧ yX7_tryStitch.cls ≠ "java/lang/invoke/MethodHandle" ∧ yX7_tryStitch.cls ≠ "java/lang/invoke/VarHandle" ∧ (parseMethodDescriptor yX7_tryStitch.desc).map (fun d => d.parameters.length) = some 1 := by decide +kernel
theorem hd_P_weaveOf : yX7_weaveOf.cls = RX7 ∧ yX7_weaveOf.cls ≠ "java/lang/invoke/MethodHandle" ∧ yX7_weaveOf.cls ≠ "java/lang/invoke/VarHandle" ∧ (parseMethodDescriptor yX7_weaveOf.desc).map (fun d => d.parameters.length) = some 1 := by decide +kernel
theorem hd_M_add : yX8_add.cls = RX8 ∧ yX8_add.cls ≠ "java/lang/invoke/MethodHandle" ∧ yX8_add.cls ≠ "java/lang/invoke/VarHandle" ∧ (parseMethodDescriptor yX8_add.desc).map (fun d => d.parameters.length) = some 2 := by decide +kernel
theorem hd_M_all : yX8_all.cls = RX8 ∧ yX8_all.cls ≠ "java/lang/invoke/MethodHandle" ∧ yX8_all.cls ≠ "java/lang/invoke/VarHandle" ∧ (parseMethodDescriptor yX8_all.desc).map (fun d => d.parameters.length) = some 1 := by decide +kernel
theorem hd_M_anew : yX8_anew.cls = RX8 ∧ yX8_anew.cls ≠ "java/lang/invoke/MethodHandle" ∧ yX8_anew.cls ≠ "java/lang/invoke/VarHandle" ∧ (parseMethodDescriptor yX8_anew.desc).map (fun d => d.parameters.length) = some 0 := by decide +kernel
theorem hd_M_areRowsAlike : yX8_areRowsAlike.cls = RX8 ∧ yX8_areRowsAlike.cls ≠ "java/lang/invoke/MethodHandle" ∧ yX8_areRowsAlike.cls ≠ "java/lang/invoke/VarHandle" ∧ (parseMethodDescriptor yX8_areRowsAlike.desc).map (fun d => d.parameters.length) = some 2 := by decide +kernel
theorem hd_M_atHome : yX8_atHome.cls = RX8 ∧ yX8_atHome.cls ≠ "java/lang/invoke/MethodHandle" ∧ yX8_atHome.cls ≠ "java/lang/invoke/VarHandle" ∧ (parseMethodDescriptor yX8_atHome.desc).map (fun d => d.parameters.length) = some 0 := by decide +kernel
theorem hd_M_begins : yX8_begins.cls = RX8 ∧ yX8_begins.cls ≠ "java/lang/invoke/MethodHandle" ∧ yX8_begins.cls ≠ "java/lang/invoke/VarHandle" ∧ (parseMethodDescriptor yX8_begins.desc).map (fun d => d.parameters.length) = some 0 := by decide +kernel
theorem hd_M_behind : yX8_behind.cls = RX8 ∧ yX8_behind.cls ≠ "java/lang/invoke/MethodHandle" ∧ yX8_behind.cls ≠ "java/lang/invoke/VarHandle" ∧ (parseMethodDescriptor yX8_behind.desc).map (fun d => d.parameters.length) = some 1 := by decide +kernel
theorem hd_M_bits : yX8_bits.cls ≠ "java/lang/invoke/MethodHandle" ∧ yX8_bits.cls ≠ "java/lang/invoke/VarHandle" ∧ (parseMethodDescriptor yX8_bits.desc).map (fun d => d.parameters.length) = some 1 := by decide +kernel
theorem hd_M_chain : yX8_chain.cls = RX8 ∧ yX8_chain.cls ≠ "java/lang/invoke/MethodHandle" ∧ yX8_chain.cls ≠ "java/lang/invoke/VarHandle" ∧ (parseMethodDescriptor yX8_chain.desc).map (fun d => d.parameters.length) = some 0 := by decide +kernel
theorem hd_M_comes : yX8_comes.cls = RX8 ∧ yX8_comes.cls ≠ "java/lang/invoke/MethodHandle" ∧ yX8_comes.cls ≠ "java/lang/invoke/VarHandle" ∧ (parseMethodDescriptor yX8_comes.desc).map (fun d => d.parameters.length) = some 2 := by decide +kernel
theorem hd_M_copy : yX8_copy.cls ≠ "java/lang/invoke/MethodHandle" ∧ yX8_copy.cls ≠ "java/lang/invoke/VarHandle" ∧ (parseMethodDescriptor yX8_copy.desc).map (fun d => d.parameters.length) = some 2 := by decide +kernel
theorem hd_M_cross : yX8_cross.cls = RX8 ∧ yX8_cross.cls ≠ "java/lang/invoke/MethodHandle" ∧ yX8_cross.cls ≠ "java/lang/invoke/VarHandle" ∧ (parseMethodDescriptor yX8_cross.desc).map (fun d => d.parameters.length) = some 3 := by decide +kernel
theorem hd_M_deep : yX8_deep.cls = RX8 ∧ yX8_deep.cls ≠ "java/lang/invoke/MethodHandle" ∧ yX8_deep.cls ≠ "java/lang/invoke/VarHandle" ∧ (parseMethodDescriptor yX8_deep.desc).map (fun d => d.parameters.length) = some 0 := by decide +kernel
theorem hd_M_divisor : yX8_divisor.cls ≠ "java/lang/invoke/MethodHandle" ∧ yX8_divisor.cls ≠ "java/lang/invoke/VarHandle" ∧ (parseMethodDescriptor yX8_divisor.desc).map (fun d => d.parameters.length) = some 2 := by decide +kernel
theorem hd_M_doWork : yX8_doWork.cls = RX8 ∧ yX8_doWork.cls ≠ "java/lang/invoke/MethodHandle" ∧ yX8_doWork.cls ≠ "java/lang/invoke/VarHandle" ∧ (parseMethodDescriptor yX8_doWork.desc).map (fun d => d.parameters.length) = some 1 := by decide +kernel
theorem hd_M_drop : yX8_drop.cls = RX8 ∧ yX8_drop.cls ≠ "java/lang/invoke/MethodHandle" ∧ yX8_drop.cls ≠ "java/lang/invoke/VarHandle" ∧ (parseMethodDescriptor yX8_drop.desc).map (fun d => d.parameters.length) = some 1 := by decide +kernel
theorem hd_M_errs : yX8_errs.cls = RX8 ∧ yX8_errs.cls ≠ "java/lang/invoke/MethodHandle" ∧ yX8_errs.cls ≠ "java/lang/invoke/VarHandle" ∧ (parseMethodDescriptor yX8_errs.desc).map (fun d => d.parameters.length) = some 1 := by decide +kernel
theorem hd_M_errsLong : yX8_errsLong.cls = RX8 ∧ yX8_errsLong.cls ≠ "java/lang/invoke/MethodHandle" ∧ yX8_errsLong.cls ≠ "java/lang/invoke/VarHandle" ∧ (parseMethodDescriptor yX8_errsLong.desc).map (fun d => d.parameters.length) = some 1 := by decide +kernel
theorem hd_M_falseOf : yX8_falseOf.cls = RX8 ∧ yX8_falseOf.cls ≠ "java/lang/invoke/MethodHandle" ∧ yX8_falseOf.cls ≠ "java/lang/invoke/VarHandle" ∧ (parseMethodDescriptor yX8_falseOf.desc).map (fun d => d.parameters.length) = some 1 := by decide +kernel
theorem hd_M_first : yX8_first.cls = RX8 ∧ yX8_first.cls ≠ "java/lang/invoke/MethodHandle" ∧ yX8_first.cls ≠ "java/lang/invoke/VarHandle" ∧ (parseMethodDescriptor yX8_first.desc).map (fun d => d.parameters.length) = some 1 := by decide +kernel
theorem hd_M_fits : yX8_fits.cls = RX8 ∧ yX8_fits.cls ≠ "java/lang/invoke/MethodHandle" ∧ yX8_fits.cls ≠ "java/lang/invoke/VarHandle" ∧ (parseMethodDescriptor yX8_fits.desc).map (fun d => d.parameters.length) = some 3 := by decide +kernel
theorem hd_M_forgets : yX8_forgets.cls = RX8 ∧ yX8_forgets.cls ≠ "java/lang/invoke/MethodHandle" ∧ yX8_forgets.cls ≠ "java/lang/invoke/VarHandle" ∧ (parseMethodDescriptor yX8_forgets.desc).map (fun d => d.parameters.length) = some 0 := by decide +kernel
theorem hd_M_freeMany : yX8_freeMany.cls = RX8 ∧ yX8_freeMany.cls ≠ "java/lang/invoke/MethodHandle" ∧ yX8_freeMany.cls ≠ "java/lang/invoke/VarHandle" ∧ (parseMethodDescriptor yX8_freeMany.desc).map (fun d => d.parameters.length) = some 0 := by decide +kernel
theorem hd_M_gaps : yX8_gaps.cls = RX8 ∧ yX8_gaps.cls ≠ "java/lang/invoke/MethodHandle" ∧ yX8_gaps.cls ≠ "java/lang/invoke/VarHandle" ∧ (parseMethodDescriptor yX8_gaps.desc).map (fun d => d.parameters.length) = some 0 := by decide +kernel
theorem hd_M_held : yX8_held.cls = RX8 ∧ yX8_held.cls ≠ "java/lang/invoke/MethodHandle" ∧ yX8_held.cls ≠ "java/lang/invoke/VarHandle" ∧ (parseMethodDescriptor yX8_held.desc).map (fun d => d.parameters.length) = some 2 := by decide +kernel
theorem hd_M_in : yX8_in.cls ≠ "java/lang/invoke/MethodHandle" ∧ yX8_in.cls ≠ "java/lang/invoke/VarHandle" ∧ (parseMethodDescriptor yX8_in.desc).map (fun d => d.parameters.length) = some 3 := by decide +kernel
theorem hd_M_isFound : yX8_isFound.cls = RX8 ∧ yX8_isFound.cls ≠ "java/lang/invoke/MethodHandle" ∧ yX8_isFound.cls ≠ "java/lang/invoke/VarHandle" ∧ (parseMethodDescriptor yX8_isFound.desc).map (fun d => d.parameters.length) = some 4 := by decide +kernel
theorem hd_M_isFree : yX8_isFree.cls = RX8 ∧ yX8_isFree.cls ≠ "java/lang/invoke/MethodHandle" ∧ yX8_isFree.cls ≠ "java/lang/invoke/VarHandle" ∧ (parseMethodDescriptor yX8_isFree.desc).map (fun d => d.parameters.length) = some 1 := by decide +kernel
theorem hd_M_isItem : yX8_isItem.cls = RX8 ∧ yX8_isItem.cls ≠ "java/lang/invoke/MethodHandle" ∧ yX8_isItem.cls ≠ "java/lang/invoke/VarHandle" ∧ (parseMethodDescriptor yX8_isItem.desc).map (fun d => d.parameters.length) = some 2 := by decide +kernel
theorem hd_M_isPlaceOf : yX8_isPlaceOf.cls = RX8 ∧ yX8_isPlaceOf.cls ≠ "java/lang/invoke/MethodHandle" ∧ yX8_isPlaceOf.cls ≠ "java/lang/invoke/VarHandle" ∧ (parseMethodDescriptor yX8_isPlaceOf.desc).map (fun d => d.parameters.length) = some 2 := by decide +kernel
theorem hd_M_isSheet : yX8_isSheet.cls ≠ "java/lang/invoke/MethodHandle" ∧ yX8_isSheet.cls ≠ "java/lang/invoke/VarHandle" ∧ (parseMethodDescriptor yX8_isSheet.desc).map (fun d => d.parameters.length) = some 1 := by decide +kernel
theorem hd_M_isStitch : yX8_isStitch.cls = RX8 ∧ yX8_isStitch.cls ≠ "java/lang/invoke/MethodHandle" ∧ yX8_isStitch.cls ≠ "java/lang/invoke/VarHandle" ∧ (parseMethodDescriptor yX8_isStitch.desc).map (fun d => d.parameters.length) = some 1 := by decide +kernel
theorem hd_M_isThread : yX8_isThread.cls = RX8 ∧ yX8_isThread.cls ≠ "java/lang/invoke/MethodHandle" ∧ yX8_isThread.cls ≠ "java/lang/invoke/VarHandle" ∧ (parseMethodDescriptor yX8_isThread.desc).map (fun d => d.parameters.length) = some 1 := by decide +kernel
theorem hd_M_isTold : yX8_isTold.cls ≠ "java/lang/invoke/MethodHandle" ∧ yX8_isTold.cls ≠ "java/lang/invoke/VarHandle" ∧ (parseMethodDescriptor yX8_isTold.desc).map (fun d => d.parameters.length) = some 1 := by decide +kernel
theorem hd_M_layers : yX8_layers.cls = RX8 ∧ yX8_layers.cls ≠ "java/lang/invoke/MethodHandle" ∧ yX8_layers.cls ≠ "java/lang/invoke/VarHandle" ∧ (parseMethodDescriptor yX8_layers.desc).map (fun d => d.parameters.length) = some 0 := by decide +kernel
theorem hd_M_leastFree : yX8_leastFree.cls = RX8 ∧ yX8_leastFree.cls ≠ "java/lang/invoke/MethodHandle" ∧ yX8_leastFree.cls ≠ "java/lang/invoke/VarHandle" ∧ (parseMethodDescriptor yX8_leastFree.desc).map (fun d => d.parameters.length) = some 0 := by decide +kernel
theorem hd_M_letterOf : yX8_letterOf.cls = RX8 ∧ yX8_letterOf.cls ≠ "java/lang/invoke/MethodHandle" ∧ yX8_letterOf.cls ≠ "java/lang/invoke/VarHandle" ∧ (parseMethodDescriptor yX8_letterOf.desc).map (fun d => d.parameters.length) = some 2 := by decide +kernel
theorem hd_M_lists : yX8_lists.cls = RX8 ∧ yX8_lists.cls ≠ "java/lang/invoke/MethodHandle" ∧ yX8_lists.cls ≠ "java/lang/invoke/VarHandle" ∧ (parseMethodDescriptor yX8_lists.desc).map (fun d => d.parameters.length) = some 0 := by decide +kernel
theorem hd_M_made : yX8_made.cls = RX8 ∧ yX8_made.cls ≠ "java/lang/invoke/MethodHandle" ∧ yX8_made.cls ≠ "java/lang/invoke/VarHandle" ∧ (parseMethodDescriptor yX8_made.desc).map (fun d => d.parameters.length) = some 0 := by decide +kernel
theorem hd_M_overs : yX8_overs.cls = RX8 ∧ yX8_overs.cls ≠ "java/lang/invoke/MethodHandle" ∧ yX8_overs.cls ≠ "java/lang/invoke/VarHandle" ∧ (parseMethodDescriptor yX8_overs.desc).map (fun d => d.parameters.length) = some 2 := by decide +kernel
theorem hd_M_placeOf : yX8_placeOf.cls = RX8 ∧ yX8_placeOf.cls ≠ "java/lang/invoke/MethodHandle" ∧ yX8_placeOf.cls ≠ "java/lang/invoke/VarHandle" ∧ (parseMethodDescriptor yX8_placeOf.desc).map (fun d => d.parameters.length) = some 1 := by decide +kernel
theorem hd_M_prickingFault : yX8_prickingFault.cls = RX8 ∧ yX8_prickingFault.cls ≠ "java/lang/invoke/MethodHandle" ∧ yX8_prickingFault.cls ≠ "java/lang/invoke/VarHandle" ∧ (parseMethodDescriptor yX8_prickingFault.desc).map (fun d => d.parameters.length) = some 0 := by decide +kernel
theorem hd_M_rankOf : yX8_rankOf.cls = RX8 ∧ yX8_rankOf.cls ≠ "java/lang/invoke/MethodHandle" ∧ yX8_rankOf.cls ≠ "java/lang/invoke/VarHandle" ∧ (parseMethodDescriptor yX8_rankOf.desc).map (fun d => d.parameters.length) = some 1 := by decide +kernel
theorem hd_M_roundsOf : yX8_roundsOf.cls = RX8 ∧ yX8_roundsOf.cls ≠ "java/lang/invoke/MethodHandle" ∧ yX8_roundsOf.cls ≠ "java/lang/invoke/VarHandle" ∧ (parseMethodDescriptor yX8_roundsOf.desc).map (fun d => d.parameters.length) = some 1 := by decide +kernel
theorem hd_M_signIn : yX8_signIn.cls = RX8 ∧ yX8_signIn.cls ≠ "java/lang/invoke/MethodHandle" ∧ yX8_signIn.cls ≠ "java/lang/invoke/VarHandle" ∧ (parseMethodDescriptor yX8_signIn.desc).map (fun d => d.parameters.length) = some 2 := by decide +kernel
theorem hd_M_spells : yX8_spells.cls = RX8 ∧ yX8_spells.cls ≠ "java/lang/invoke/MethodHandle" ∧ yX8_spells.cls ≠ "java/lang/invoke/VarHandle" ∧ (parseMethodDescriptor yX8_spells.desc).map (fun d => d.parameters.length) = some 3 := by decide +kernel
theorem hd_M_takes : yX8_takes.cls = RX8 ∧ yX8_takes.cls ≠ "java/lang/invoke/MethodHandle" ∧ yX8_takes.cls ≠ "java/lang/invoke/VarHandle" ∧ (parseMethodDescriptor yX8_takes.desc).map (fun d => d.parameters.length) = some 1 := by decide +kernel
theorem hd_M_theWork : yX8_theWork.cls = RX8 ∧ yX8_theWork.cls ≠ "java/lang/invoke/MethodHandle" ∧ yX8_theWork.cls ≠ "java/lang/invoke/VarHandle" ∧ (parseMethodDescriptor yX8_theWork.desc).map (fun d => d.parameters.length) = some 0 := by decide +kernel
theorem hd_M_threads : yX8_threads.cls = RX8 ∧ yX8_threads.cls ≠ "java/lang/invoke/MethodHandle" ∧ yX8_threads.cls ≠ "java/lang/invoke/VarHandle" ∧ (parseMethodDescriptor yX8_threads.desc).map (fun d => d.parameters.length) = some 0 := by decide +kernel
theorem hd_M_ways : yX8_ways.cls = RX8 ∧ yX8_ways.cls ≠ "java/lang/invoke/MethodHandle" ∧ yX8_ways.cls ≠ "java/lang/invoke/VarHandle" ∧ (parseMethodDescriptor yX8_ways.desc).map (fun d => d.parameters.length) = some 1 := by decide +kernel
theorem hd_M_whole : yX8_whole.cls = RX8 ∧ yX8_whole.cls ≠ "java/lang/invoke/MethodHandle" ∧ yX8_whole.cls ≠ "java/lang/invoke/VarHandle" ∧ (parseMethodDescriptor yX8_whole.desc).map (fun d => d.parameters.length) = some 1 := by decide +kernel
theorem hd_M_wide : yX8_wide.cls = RX8 ∧ yX8_wide.cls ≠ "java/lang/invoke/MethodHandle" ∧ yX8_wide.cls ≠ "java/lang/invoke/VarHandle" ∧ (parseMethodDescriptor yX8_wide.desc).map (fun d => d.parameters.length) = some 0 := by decide +kernel
theorem hd_M_workedSet : yX8_workedSet.cls = RX8 ∧ yX8_workedSet.cls ≠ "java/lang/invoke/MethodHandle" ∧ yX8_workedSet.cls ≠ "java/lang/invoke/VarHandle" ∧ (parseMethodDescriptor yX8_workedSet.desc).map (fun d => d.parameters.length) = some 0 := by decide +kernel
theorem hd_M_works : yX8_works.cls = RX8 ∧ yX8_works.cls ≠ "java/lang/invoke/MethodHandle" ∧ yX8_works.cls ≠ "java/lang/invoke/VarHandle" ∧ (parseMethodDescriptor yX8_works.desc).map (fun d => d.parameters.length) = some 2 := by decide +kernel
theorem hd_M_wrong : yX8_wrong.cls = RX8 ∧ yX8_wrong.cls ≠ "java/lang/invoke/MethodHandle" ∧ yX8_wrong.cls ≠ "java/lang/invoke/VarHandle" ∧ (parseMethodDescriptor yX8_wrong.desc).map (fun d => d.parameters.length) = some 1 := by decide +kernel

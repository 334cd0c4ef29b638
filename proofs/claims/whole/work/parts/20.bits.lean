-- BITS
theorem bv64 {n : Nat} (h : n < 2 ^ 63) : (Int64.ofInt (n : Int)).toBitVec.toNat = n := by
  rw [Int64.toBitVec_ofInt, BitVec.ofInt_natCast, BitVec.toNat_ofNat, Nat.mod_eq_of_lt (by omega)]
theorem ti64 {x : Int64} (h : x.toBitVec.toNat < 2 ^ 63) : x.toInt = (x.toBitVec.toNat : Int) := by
  show x.toBitVec.toInt = _
  rw [BitVec.toInt_eq_toNat_of_lt (by omega)]
theorem lro_ok {a b : Nat} (ha : a < 2 ^ 63) (hb : b < 2 ^ 63) : lro a b = ((a ||| b : Nat) : Int) := by
  unfold lro
  have h : (Int64.ofInt (a : Int) ||| Int64.ofInt (b : Int)).toBitVec.toNat = a ||| b := by
    rw [Int64.toBitVec_or, BitVec.toNat_or, bv64 ha, bv64 hb]
  rw [ti64 (by rw [h]; exact Nat.or_lt_two_pow ha hb), h]
theorem lan_ok {a b : Nat} (ha : a < 2 ^ 63) (hb : b < 2 ^ 63) : lan a b = ((a &&& b : Nat) : Int) := by
  unfold lan
  have h : (Int64.ofInt (a : Int) &&& Int64.ofInt (b : Int)).toBitVec.toNat = a &&& b := by
    rw [Int64.toBitVec_and, BitVec.toNat_and, bv64 ha, bv64 hb]
  rw [ti64 (by rw [h]; exact Nat.and_lt_two_pow a hb), h]
theorem shc : ∀ k : Nat, k < 64 → ((((Int32.ofInt (k : Int)).toInt64 &&& 63) : Int64).toBitVec.smod 64).toNat = k := by decide +kernel
theorem shd (k : Nat) (h : k < 64) : ((((Int32.ofInt (k : Int)).toInt64 &&& 63) : Int64).toBitVec.smod 64).toNat = k := shc k h
theorem lsh1_ok {s : Nat} (hs : s < 63) : lsh 1 s = ((2 ^ s : Nat) : Int) := by
  unfold lsh
  have h : (Int64.ofInt 1 <<< ((Int32.ofInt (s : Int)).toInt64 &&& 63)).toBitVec.toNat = 2 ^ s := by
    have e : (Int64.ofInt 1 <<< ((Int32.ofInt (s : Int)).toInt64 &&& 63)).toBitVec = (1#64) <<< ((((Int32.ofInt (s : Int)).toInt64 &&& 63) : Int64).toBitVec.smod 64).toNat := rfl
    rw [e, shd s (by omega), BitVec.toNat_shiftLeft, Nat.shiftLeft_eq]
    rw [show (1#64 : BitVec 64).toNat = 1 from rfl, Nat.one_mul]
    exact Nat.mod_eq_of_lt (Nat.pow_lt_pow_right (by decide) (by omega))
  rw [ti64 (by rw [h]; exact Nat.pow_lt_pow_right (by decide) hs), h]
theorem lsr_ok {a s : Nat} (ha : a < 2 ^ 63) (hs : s < 63) : lsr a s = ((a / 2 ^ s : Nat) : Int) := by
  unfold lsr
  have e : (Int64.ofInt (a : Int) >>> ((Int32.ofInt (s : Int)).toInt64 &&& 63)).toBitVec = (Int64.ofInt (a : Int)).toBitVec.sshiftRight ((((Int32.ofInt (s : Int)).toInt64 &&& 63) : Int64).toBitVec.smod 64).toNat := rfl
  show (Int64.ofInt (a : Int) >>> ((Int32.ofInt (s : Int)).toInt64 &&& 63)).toBitVec.toInt = _
  rw [e, shd s (by omega), BitVec.toInt_sshiftRight]
  have e2 : (Int64.ofInt (a : Int)).toBitVec.toInt = (a : Int) := by
    have := ti64 (x := Int64.ofInt (a : Int)) (by rw [bv64 ha]; exact ha)
    rw [bv64 ha] at this
    exact this
  rw [e2, Int.shiftRight_eq_div_pow]
  simp
theorem div_lt63 {a s : Nat} (ha : a < 2 ^ 63) : a / 2 ^ s < 2 ^ 63 := Nat.lt_of_le_of_lt (Nat.div_le_self _ _) ha
theorem bit_ok {a s : Nat} (ha : a < 2 ^ 63) (hs : s < 63) : lan (lsr a s) 1 = if a.testBit s then 1 else 0 := by
  rw [lsr_ok ha hs]
  have := lan_ok (a := a / 2 ^ s) (b := 1) (div_lt63 ha) (by decide)
  rw [show ((1 : Nat) : Int) = 1 from rfl] at this
  rw [this, Nat.and_one_is_mod, Nat.testBit_eq_decide_div_mod_eq]
  have : a / 2 ^ s % 2 = 0 ∨ a / 2 ^ s % 2 = 1 := by omega
  rcases this with e | e <;> rw [e] <;> rfl
theorem sub_ok {a b : Nat} (ha : a < 2 ^ 63) (hb : b < 2 ^ 63) : i64 (lan a (lxr b (-1))) = 0 ↔ ∀ i, a.testBit i = true → b.testBit i = true := by
  have e0 : i64 (lan a (lxr b (-1))) = lan a (lxr b (-1)) := i64_id (by
    have := Int64.le_toInt (Int64.ofInt a &&& Int64.ofInt (lxr b (-1)))
    unfold lan; omega) (by
    have := Int64.toInt_lt (Int64.ofInt a &&& Int64.ofInt (lxr b (-1)))
    unfold lan; omega)
  rw [e0]
  unfold lan lxr
  rw [ofl]
  have e1 : (Int64.ofInt (a : Int) &&& (Int64.ofInt (b : Int) ^^^ Int64.ofInt (-1))).toInt = 0 ↔ (Int64.ofInt (a : Int) &&& (Int64.ofInt (b : Int) ^^^ Int64.ofInt (-1))).toBitVec = 0#64 := by
    constructor
    · intro h
      have : (Int64.ofInt (a : Int) &&& (Int64.ofInt (b : Int) ^^^ Int64.ofInt (-1))) = 0 := Int64.toInt_inj.mp (by rw [h]; rfl)
      rw [this]; rfl
    · intro h
      have : (Int64.ofInt (a : Int) &&& (Int64.ofInt (b : Int) ^^^ Int64.ofInt (-1))) = 0 := Int64.toBitVec_inj.mp (by rw [h]; rfl)
      rw [this]; rfl
  rw [e1, Int64.toBitVec_and, Int64.toBitVec_xor]
  have em : (Int64.ofInt (-1)).toBitVec = BitVec.allOnes 64 := by decide +kernel
  rw [em, Int64.toBitVec_ofInt, Int64.toBitVec_ofInt, BitVec.ofInt_natCast, BitVec.ofInt_natCast]
  constructor
  · intro h i hi
    have hi64 : i < 64 := by
      rcases Nat.lt_or_ge i 64 with q | q
      · exact q
      · have : a < 2 ^ i := Nat.lt_of_lt_of_le ha (Nat.pow_le_pow_right (by decide) (by omega))
        rw [Nat.testBit_lt_two_pow this] at hi
        cases hi
    have h2 := congrArg (fun v => v.getLsbD i) h
    simp only [BitVec.getLsbD_and, BitVec.getLsbD_xor, BitVec.getLsbD_ofNat, BitVec.getLsbD_allOnes, hi64, decide_true, Bool.true_and, hi] at h2
    simpa using h2
  · intro h
    apply BitVec.eq_of_getLsbD_eq
    intro i hi
    simp only [BitVec.getLsbD_and, BitVec.getLsbD_xor, BitVec.getLsbD_ofNat, BitVec.getLsbD_allOnes, hi, decide_true, Bool.true_and]
    cases e : a.testBit i with
    | false => simp
    | true => simp [h i e]
-- sets in one int
theorem bv32 {n : Nat} (h : n < 2 ^ 31) : (Int32.ofInt (n : Int)).toBitVec.toNat = n := by
  rw [Int32.toBitVec_ofInt, BitVec.ofInt_natCast, BitVec.toNat_ofNat, Nat.mod_eq_of_lt (by omega)]
theorem ti32 {x : Int32} (h : x.toBitVec.toNat < 2 ^ 31) : x.toInt = (x.toBitVec.toNat : Int) := by
  show x.toBitVec.toInt = _
  rw [BitVec.toInt_eq_toNat_of_lt (by omega)]
theorem iro_ok {a b : Nat} (ha : a < 2 ^ 31) (hb : b < 2 ^ 31) : iro a b = ((a ||| b : Nat) : Int) := by
  unfold iro
  have h : (Int32.ofInt (a : Int) ||| Int32.ofInt (b : Int)).toBitVec.toNat = a ||| b := by
    rw [Int32.toBitVec_or, BitVec.toNat_or, bv32 ha, bv32 hb]
  rw [ti32 (by rw [h]; exact Nat.or_lt_two_pow ha hb), h]
theorem ian_ok {a b : Nat} (ha : a < 2 ^ 31) (hb : b < 2 ^ 31) : ian a b = ((a &&& b : Nat) : Int) := by
  unfold ian
  have h : (Int32.ofInt (a : Int) &&& Int32.ofInt (b : Int)).toBitVec.toNat = a &&& b := by
    rw [Int32.toBitVec_and, BitVec.toNat_and, bv32 ha, bv32 hb]
  rw [ti32 (by rw [h]; exact Nat.and_lt_two_pow a hb), h]
theorem she : ∀ k : Nat, k < 32 → ((((Int32.ofInt (k : Int)) &&& 31) : Int32).toBitVec.smod 32).toNat = k := by decide +kernel
theorem ish1_ok {s : Nat} (hs : s < 31) : ish 1 s = ((2 ^ s : Nat) : Int) := by
  unfold ish
  have h : (Int32.ofInt 1 <<< (Int32.ofInt (s : Int) &&& 31)).toBitVec.toNat = 2 ^ s := by
    have e : (Int32.ofInt 1 <<< (Int32.ofInt (s : Int) &&& 31)).toBitVec = (1#32) <<< ((((Int32.ofInt (s : Int)) &&& 31) : Int32).toBitVec.smod 32).toNat := rfl
    rw [e, she s (by omega), BitVec.toNat_shiftLeft, Nat.shiftLeft_eq]
    rw [show (1#32 : BitVec 32).toNat = 1 from rfl, Nat.one_mul]
    exact Nat.mod_eq_of_lt (Nat.pow_lt_pow_right (by decide) (by omega))
  rw [ti32 (by rw [h]; exact Nat.pow_lt_pow_right (by decide) hs), h]
theorem isr_ok {a s : Nat} (ha : a < 2 ^ 31) (hs : s < 31) : isr a s = ((a / 2 ^ s : Nat) : Int) := by
  unfold isr
  have e : (Int32.ofInt (a : Int) >>> (Int32.ofInt (s : Int) &&& 31)).toBitVec = (Int32.ofInt (a : Int)).toBitVec.sshiftRight ((((Int32.ofInt (s : Int)) &&& 31) : Int32).toBitVec.smod 32).toNat := rfl
  show (Int32.ofInt (a : Int) >>> (Int32.ofInt (s : Int) &&& 31)).toBitVec.toInt = _
  rw [e, she s (by omega), BitVec.toInt_sshiftRight]
  have e2 : (Int32.ofInt (a : Int)).toBitVec.toInt = (a : Int) := by
    have := ti32 (x := Int32.ofInt (a : Int)) (by rw [bv32 ha]; exact ha)
    rw [bv32 ha] at this
    exact this
  rw [e2, Int.shiftRight_eq_div_pow]
  simp
theorem ibit_ok {a s : Nat} (ha : a < 2 ^ 31) (hs : s < 31) : ian (isr a s) 1 = if a.testBit s then 1 else 0 := by
  rw [isr_ok ha hs]
  have := ian_ok (a := a / 2 ^ s) (b := 1) (Nat.lt_of_le_of_lt (Nat.div_le_self _ _) ha) (by decide)
  rw [show ((1 : Nat) : Int) = 1 from rfl] at this
  rw [this, Nat.and_one_is_mod, Nat.testBit_eq_decide_div_mod_eq]
  have : a / 2 ^ s % 2 = 0 ∨ a / 2 ^ s % 2 = 1 := by omega
  rcases this with e | e <;> rw [e] <;> rfl
/-- the int's complement, as a long, is the long's -/
theorem ixr_ok {b : Nat} (hb : b < 2 ^ 31) : i32 (ixr b (-1)) = -(b : Int) - 1 := by
  unfold ixr
  have e : (Int32.ofInt (b : Int) ^^^ Int32.ofInt (-1)) = ~~~ (Int32.ofInt (b : Int)) := by
    apply Int32.toBitVec_inj.mp
    rw [Int32.toBitVec_xor, Int32.toBitVec_not]
    have em : (Int32.ofInt (-1)).toBitVec = BitVec.allOnes 32 := by decide +kernel
    rw [em, BitVec.xor_allOnes]
  rw [e]
  show (Int32.ofInt (~~~ (Int32.ofInt (b : Int))).toInt).toInt = _
  rw [Int32.ofInt_toInt, Int32.not_eq_neg_sub]
  have : (-(Int32.ofInt (b : Int)) - 1) = Int32.ofInt (-(b : Int) - 1) := by
    rw [Int32.ofInt_sub, Int32.ofInt_neg]
    rfl
  rw [this]
  exact i32_id (by omega) (by omega)
theorem lxr_neg {b : Nat} (hb : b < 2 ^ 63) : lxr b (-1) = -(b : Int) - 1 := by
  unfold lxr
  have e : (Int64.ofInt (b : Int) ^^^ Int64.ofInt (-1)) = ~~~ (Int64.ofInt (b : Int)) := by
    apply Int64.toBitVec_inj.mp
    rw [Int64.toBitVec_xor, Int64.toBitVec_not]
    have em : (Int64.ofInt (-1)).toBitVec = BitVec.allOnes 64 := by decide +kernel
    rw [em, BitVec.xor_allOnes]
  rw [e, Int64.not_eq_neg_sub]
  have : (-(Int64.ofInt (b : Int)) - 1) = Int64.ofInt (-(b : Int) - 1) := by
    rw [Int64.ofInt_sub, Int64.ofInt_neg]
    rfl
  rw [this]
  exact i64_id (by omega) (by omega)
theorem isub_ok {a b : Nat} (ha : a < 2 ^ 63) (hb : b < 2 ^ 31) : i64 (lan a (i32 (ixr b (-1)))) = 0 ↔ ∀ i, a.testBit i = true → b.testBit i = true := by
  rw [ixr_ok hb, ← lxr_neg (by omega)]
  exact sub_ok ha (by omega)

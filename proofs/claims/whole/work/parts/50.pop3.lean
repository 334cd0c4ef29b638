-- Long.bitCount: its end
theorem shu : ∀ k : Nat, k < 64 → (((Int32.ofInt (k : Int)).toInt64.toUInt64 &&& Int64.toUInt64 63) : UInt64).toNat % 64 = k := by decide +kernel
theorem lsu_ok {a s : Nat} (ha : a < 2 ^ 63) (hs : s < 63) : lsu a s = ((a / 2 ^ s : Nat) : Int) := by
  unfold lsu
  have e : ((Int64.ofInt (a : Int)).toUInt64 >>> ((Int32.ofInt (s : Int)).toInt64.toUInt64 &&& Int64.toUInt64 63)).toInt64.toBitVec.toNat = a / 2 ^ s := by
    show ((Int64.ofInt (a : Int)).toUInt64 >>> ((Int32.ofInt (s : Int)).toInt64.toUInt64 &&& Int64.toUInt64 63)).toNat = _
    rw [UInt64.toNat_shiftRight, shu s (by omega), Nat.shiftRight_eq_div_pow]
    have : (Int64.ofInt (a : Int)).toUInt64.toNat = a := bv64 ha
    rw [this]
  have hlt := div_lt63 (s := s) ha
  rw [ti64 (by rw [e]; exact hlt), e]
def h21 (v : Nat) : Nat := f2 (f1 v)
theorem d4 : ∀ v, v < 256 → ∀ b, b < 5 → v % 16 ≤ 4 → v / 16 ≤ 4 → (v + v / 16 + 16 * b) &&& 15 = f3 v ∧ v + v / 16 + 16 * b < 256 := by decide +kernel
theorem h21_lt (v : Nat) (h : v < 256) : h21 v < 256 := (d2 (f1 v) (d3 v h).2.2.2 0 (by decide)).2
theorem ev_low (n x : Nat) : ev8 h21 n x % 16 ≤ 4 := by
  cases n with
  | zero => show 0 % 16 ≤ 4; decide
  | succ n =>
    have := (d3 (x % 256) (Nat.mod_lt _ (by decide))).2.1
    show (2 ^ 8 * ev8 h21 n (x / 256) + h21 (x % 256)) % 16 ≤ 4
    unfold h21 at *
    omega
theorem st3 (n x : Nat) : (ev8 h21 n x + ev8 h21 n x / 16) &&& mk8 15 n = ev8 (fun v => f3 (h21 v)) n x := by
  induction n generalizing x with
  | zero => simp [mk8, ev8]
  | succ n ih =>
    have hv := Nat.mod_lt x (show 256 > 0 by decide)
    have hl := ev_low n (x / 256)
    obtain ⟨b1, b2, b3, b4⟩ := d3 (x % 256) hv
    have hh := h21_lt (x % 256) hv
    obtain ⟨c1, c2⟩ := d4 (h21 (x % 256)) hh (ev8 h21 n (x / 256) % 16) (by omega) b2 b3
    show ((2 ^ 8 * ev8 h21 n (x / 256) + h21 (x % 256)) + (2 ^ 8 * ev8 h21 n (x / 256) + h21 (x % 256)) / 16) &&& (2 ^ 8 * mk8 15 n + 15) = 2 ^ 8 * ev8 (fun v => f3 (h21 v)) n (x / 256) + f3 (h21 (x % 256))
    rw [show (2 ^ 8 * ev8 h21 n (x / 256) + h21 (x % 256)) + (2 ^ 8 * ev8 h21 n (x / 256) + h21 (x % 256)) / 16 = 2 ^ 8 * (ev8 h21 n (x / 256) + ev8 h21 n (x / 256) / 16) + (h21 (x % 256) + h21 (x % 256) / 16 + 16 * (ev8 h21 n (x / 256) % 16)) by omega, and_pow _ _ c2 (by decide), c1, ih]
theorem pcN_add (m n x : Nat) : pcN (m + n) x = pcN m (x % 2 ^ m) + pcN n (x / 2 ^ m) := by
  induction m generalizing x with
  | zero => simp [pcN]
  | succ m ih =>
    rw [show m + 1 + n = (m + n) + 1 by omega]
    show x % 2 + pcN (m + n) (x / 2) = (x % 2 ^ (m + 1) % 2 + pcN m (x % 2 ^ (m + 1) / 2)) + pcN n (x / 2 ^ (m + 1))
    rw [ih, Nat.div_div_eq_div_mul, Nat.pow_succ, Nat.mul_comm (2 ^ m) 2]
    have e1 : x % (2 * 2 ^ m) % 2 = x % 2 := Nat.mod_mul_right_mod x 2 (2 ^ m)
    have e2 : x % (2 * 2 ^ m) / 2 = x / 2 % 2 ^ m := Nat.mod_mul_right_div_self x 2 (2 ^ m)
    rw [e1, e2]
    omega
theorem ev_pc (n x : Nat) : ev8 (fun v => f3 (h21 v)) n x = ev8 (pcN 8) n x := by
  induction n generalizing x with
  | zero => rfl
  | succ n ih =>
    show 2 ^ 8 * ev8 (fun v => f3 (h21 v)) n (x / 256) + f3 (h21 (x % 256)) = 2 ^ 8 * ev8 (pcN 8) n (x / 256) + pcN 8 (x % 256)
    rw [ih]
    have := (d3 (x % 256) (Nat.mod_lt _ (by decide))).1
    unfold h21
    rw [this]

-- Long.bitCount: the whole
theorem ev8_z {f : Nat → Nat} (h0 : f 0 = 0) (k : Nat) : ev8 f k 0 = 0 := by
  induction k with
  | zero => rfl
  | succ k ih =>
    show 2 ^ 8 * ev8 f k (0 / 256) + f (0 % 256) = 0
    rw [Nat.zero_div, Nat.zero_mod, ih, h0]
theorem ev8_small {f : Nat → Nat} (h0 : f 0 = 0) (k m x : Nat) (hx : x < 256 ^ m) : ev8 f (m + k) x = ev8 f m x := by
  induction m generalizing x with
  | zero =>
    have : x = 0 := by rw [Nat.pow_zero] at hx; omega
    rw [this, Nat.zero_add, ev8_z h0]
    rfl
  | succ m ih =>
    rw [show m + 1 + k = (m + k) + 1 by omega]
    show 2 ^ 8 * ev8 f (m + k) (x / 256) + f (x % 256) = 2 ^ 8 * ev8 f m (x / 256) + f (x % 256)
    rw [ih _ (by rw [Nat.pow_succ] at hx; omega)]
def bsum : Nat → Nat → Nat
  | 0, _ => 0
  | n + 1, x => pcN 8 (x % 256) + bsum n (x / 256)
theorem pc_bsum (n x : Nat) : pcN (8 * n) x = bsum n x := by
  induction n generalizing x with
  | zero => rfl
  | succ n ih =>
    rw [show 8 * (n + 1) = 8 + 8 * n by omega, pcN_add, ih]
    rfl
theorem ian127 (m : Nat) : ian m 127 = ((m % 128 : Nat) : Int) := by
  unfold ian
  have e : (Int32.ofInt (m : Int) &&& Int32.ofInt 127).toBitVec.toNat = m % 128 := by
    rw [Int32.toBitVec_and, BitVec.toNat_and, Int32.toBitVec_ofInt, BitVec.ofInt_natCast, BitVec.toNat_ofNat]
    have h2 : (Int32.ofInt 127).toBitVec.toNat = 2 ^ 7 - 1 := by decide
    rw [h2, Nat.and_two_pow_sub_one_eq_mod]
    omega
  rw [ti32 (by rw [e]; omega), e]
theorem m85 : ((mk8 85 8 : Nat) : Int) = 6148914691236517205 ∧ mk8 85 8 < 2 ^ 63 := by decide +kernel
theorem m51 : ((mk8 51 8 : Nat) : Int) = 3689348814741910323 ∧ mk8 51 8 < 2 ^ 63 := by decide +kernel
theorem m15 : ((mk8 15 8 : Nat) : Int) = 1085102592571150095 ∧ mk8 15 8 < 2 ^ 63 := by decide +kernel
theorem pc8_0 : pcN 8 0 = 0 := pcN_0 8
theorem bitCount_ok {σ : St} {x : Nat} {Q : Int → St → Prop} (hx : x < 2 ^ 48) (k : Q (pcN 48 x : Nat) σ) : V_bitCount σ x Q := by
  have p := p48
  have h256 : (256 : Nat) ^ 6 = 2 ^ 48 := by decide
  have h2568 : (256 : Nat) ^ 8 = 2 ^ 64 := by decide
  have hlt : ∀ v, v < 256 → f1 v < 256 := fun v hv => (d3 v hv).2.2.2
  unfold V_bitCount
  intro y1 e1 y2 e2 y3 e3 y4 e4 y5 e5 y6 e6
  have s1 : lsu (x : Int) 1 = ((x / 2 : Nat) : Int) := lsu_ok (a := x) (s := 1) (by omega) (by decide)
  obtain ⟨a1, a2⟩ := st1 8 x
  rw [h2568, Nat.mod_eq_of_lt (by omega)] at a1 a2
  rw [s1, ← m85.1, lan_ok (by omega) m85.2] at e1
  have b1 : y1 = ((ev8 f1 8 x : Nat) : Int) := by rw [e1, ← a2]; omega
  have c1 : ev8 f1 8 x < 2 ^ 48 := by omega
  have s2 : lsu ((ev8 f1 8 x : Nat) : Int) 2 = ((ev8 f1 8 x / 4 : Nat) : Int) := lsu_ok (s := 2) (by omega) (by decide)
  rw [b1, s2, ← m51.1, lan_ok (by omega) m51.2, lan_ok (by omega) m51.2] at e2
  have a3 := st2 8 (ev8 f1 8 x)
  rw [ev8_comp hlt] at a3
  have b2 : y2 = ((ev8 h21 8 x : Nat) : Int) := by
    rw [e2]
    have : ev8 h21 8 x = ev8 (fun v => f2 (f1 v)) 8 x := rfl
    rw [this, ← a3]
    omega
  have c2 : ev8 h21 8 x < 2 ^ 48 := by
    rw [show (8 : Nat) = 6 + 2 from rfl, ev8_small (by decide) 2 6 x (by omega), ← h256]
    exact ev8_lt (fun v hv => h21_lt v hv) 6 x
  have s3 : lsu ((ev8 h21 8 x : Nat) : Int) 4 = ((ev8 h21 8 x / 16 : Nat) : Int) := lsu_ok (s := 4) (by omega) (by decide)
  rw [b2, s3, show ((ev8 h21 8 x : Nat) : Int) + ((ev8 h21 8 x / 16 : Nat) : Int) = ((ev8 h21 8 x + ev8 h21 8 x / 16 : Nat) : Int) by omega, ← m15.1, lan_ok (by omega) m15.2, st3, ev_pc, show (8 : Nat) = 6 + 2 from rfl, ev8_small pc8_0 2 6 x (by omega)] at e3
  have hp6 : pcN 48 x = bsum 6 x := pc_bsum 6 x
  simp only [bsum] at hp6
  simp only [ev8] at e3
  have g0 := pcN_le 8 (x % 256)
  have g1 := pcN_le 8 (x / 256 % 256)
  have g2 := pcN_le 8 (x / 256 / 256 % 256)
  have g3 := pcN_le 8 (x / 256 / 256 / 256 % 256)
  have g4 := pcN_le 8 (x / 256 / 256 / 256 / 256 % 256)
  have g5 := pcN_le 8 (x / 256 / 256 / 256 / 256 / 256 % 256)
  generalize pcN 8 (x % 256) = z0 at *
  generalize pcN 8 (x / 256 % 256) = z1 at *
  generalize pcN 8 (x / 256 / 256 % 256) = z2 at *
  generalize pcN 8 (x / 256 / 256 / 256 % 256) = z3 at *
  generalize pcN 8 (x / 256 / 256 / 256 / 256 % 256) = z4 at *
  generalize pcN 8 (x / 256 / 256 / 256 / 256 / 256 % 256) = z5 at *
  obtain ⟨z, hz⟩ : ∃ z : Nat, z = z0 + 256 * z1 + 65536 * z2 + 16777216 * z3 + 4294967296 * z4 + 1099511627776 * z5 := ⟨_, rfl⟩
  have b3 : y3 = (z : Int) := by rw [e3, hz]; omega
  have s4 : lsu (z : Int) 8 = ((z / 256 : Nat) : Int) := lsu_ok (s := 8) (by omega) (by decide)
  have b4 : y4 = ((z + z / 256 : Nat) : Int) := by rw [e4, b3, s4]; omega
  obtain ⟨w, hw⟩ : ∃ w : Nat, w = z + z / 256 := ⟨_, rfl⟩
  rw [← hw] at b4
  have s5 : lsu (w : Int) 16 = ((w / 65536 : Nat) : Int) := lsu_ok (s := 16) (by omega) (by decide)
  have b5 : y5 = ((w + w / 65536 : Nat) : Int) := by rw [e5, b4, s5]; omega
  obtain ⟨v, hv⟩ : ∃ v : Nat, v = w + w / 65536 := ⟨_, rfl⟩
  rw [← hv] at b5
  have s6 : lsu (v : Int) 32 = ((v / 4294967296 : Nat) : Int) := lsu_ok (s := 32) (by omega) (by decide)
  have b6 : y6 = ((v + v / 4294967296 : Nat) : Int) := by rw [e6, b5, s6]; omega
  rw [b6, ian127]
  have w1 : w = (z0 + z1) + 256 * (z1 + z2) + 65536 * (z2 + z3) + 16777216 * (z3 + z4) + 4294967296 * (z4 + z5) + 1099511627776 * z5 := by omega
  have v1 : v = (z0 + z1 + z2 + z3) + 256 * (z1 + z2 + z3 + z4) + 65536 * (z2 + z3 + z4 + z5) + 16777216 * (z3 + z4 + z5) + 4294967296 * (z4 + z5) + 1099511627776 * z5 := by omega
  have r : (v + v / 4294967296) % 128 = pcN 48 x := by
    have : v / 4294967296 = (z4 + z5) + 256 * z5 := by omega
    omega
  rw [r]
  exact k

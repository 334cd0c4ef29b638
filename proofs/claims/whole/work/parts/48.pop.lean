-- COUNTING BITS
theorem and_pow {w a b : Nat} (x y : Nat) (ha : a < 2 ^ w) (hb : b < 2 ^ w) : (2 ^ w * x + a) &&& (2 ^ w * y + b) = 2 ^ w * (x &&& y) + (a &&& b) := by
  have hab : a &&& b < 2 ^ w := Nat.and_lt_two_pow a hb
  apply Nat.eq_of_testBit_eq
  intro j
  rw [Nat.testBit_and, Nat.testBit_two_pow_mul_add _ ha, Nat.testBit_two_pow_mul_add _ hb, Nat.testBit_two_pow_mul_add _ hab]
  split
  · rw [Nat.testBit_and]
  · rw [Nat.testBit_and]
def pcN : Nat → Nat → Nat
  | 0, _ => 0
  | n + 1, x => x % 2 + pcN n (x / 2)
theorem pcN_le (n x : Nat) : pcN n x ≤ n := by
  induction n generalizing x with
  | zero => exact Nat.le_refl _
  | succ n ih =>
    have := ih (x / 2)
    show x % 2 + pcN n (x / 2) ≤ n + 1
    omega
theorem pcN_clear (n x : Nat) (h : 0 < x) (hx : x < 2 ^ n) : pcN n (x &&& (x - 1)) + 1 = pcN n x ∧ x &&& (x - 1) < x := by
  induction n generalizing x with
  | zero => rw [Nat.pow_zero] at hx; omega
  | succ n ih =>
    rw [Nat.pow_succ] at hx
    by_cases c : x % 2 = 1
    · have e1 : x = 2 ^ 1 * (x / 2) + 1 := by omega
      have e2 : x - 1 = 2 ^ 1 * (x / 2) + 0 := by omega
      have e : x &&& (x - 1) = 2 * (x / 2) := by
        rw [e2]
        conv => lhs; lhs; rw [e1]
        rw [and_pow _ _ (by decide) (by decide), Nat.and_self]
        rfl
      rw [e]
      refine ⟨?_, by omega⟩
      show 2 * (x / 2) % 2 + pcN n (2 * (x / 2) / 2) + 1 = x % 2 + pcN n (x / 2)
      rw [show 2 * (x / 2) / 2 = x / 2 by omega]
      omega
    · have e1 : x = 2 ^ 1 * (x / 2) + 0 := by omega
      have e2 : x - 1 = 2 ^ 1 * (x / 2 - 1) + 1 := by omega
      have e : x &&& (x - 1) = 2 * (x / 2 &&& (x / 2 - 1)) := by
        rw [e2]
        conv => lhs; lhs; rw [e1]
        rw [and_pow _ _ (by decide) (by decide)]
        rfl
      obtain ⟨i1, i2⟩ := ih (x / 2) (by omega) (by omega)
      rw [e]
      refine ⟨?_, by omega⟩
      show 2 * (x / 2 &&& (x / 2 - 1)) % 2 + pcN n (2 * (x / 2 &&& (x / 2 - 1)) / 2) + 1 = x % 2 + pcN n (x / 2)
      rw [show 2 * (x / 2 &&& (x / 2 - 1)) / 2 = (x / 2 &&& (x / 2 - 1)) by omega]
      omega
theorem pcN_0 (n : Nat) : pcN n 0 = 0 := by
  induction n with
  | zero => rfl
  | succ n ih => show 0 % 2 + pcN n (0 / 2) = 0; rw [Nat.zero_div, ih]
theorem Mbits_ok {τ : St} {x : Nat} {Q : Int → St → Prop} (hx : x < 2 ^ 48) (k : Q (pcN 48 x : Nat) τ) : V_M_bits τ x Q := by
  have p := p48
  unfold V_M_bits
  refine wl2 (fun a y u => u = τ ∧ ∃ m n : Nat, a = m ∧ y = n ∧ m < 2 ^ 48 ∧ n + pcN 48 m = pcN 48 x) (fun a _ _ => a.toNat) ⟨rfl, x, 0, rfl, rfl, hx, by omega⟩ ?_
  intro bk a y u hI hb
  obtain ⟨rfl, m, n, rfl, rfl, h1, h2⟩ := hI
  rw [i64_id (x := (m : Int)) (by omega) (by omega)]
  refine ⟨fun hc => ?_, fun hc z hz => ?_⟩
  · have : m = 0 := by omega
    rw [this, pcN_0] at h2
    rw [show (n : Nat) = pcN 48 x by omega]
    exact k
  · obtain ⟨c1, c2⟩ := pcN_clear 48 m (by omega) h1
    rw [show (m : Int) - 1 = ((m - 1 : Nat) : Int) by omega, lan_ok (by omega) (by omega)] at hz
    exact hb _ _ _ ⟨rfl, _, n + 1, hz, by omega, by omega, by omega⟩ (by omega)

-- Long.bitCount
def mk8 (m : Nat) : Nat → Nat
  | 0 => 0
  | n + 1 => 2 ^ 8 * mk8 m n + m
def ev8 (f : Nat → Nat) : Nat → Nat → Nat
  | 0, _ => 0
  | n + 1, x => 2 ^ 8 * ev8 f n (x / 256) + f (x % 256)
theorem ev8_lt {f : Nat → Nat} (hf : ∀ v, v < 256 → f v < 256) (n x : Nat) : ev8 f n x < 256 ^ n := by
  induction n generalizing x with
  | zero => exact Nat.one_pos
  | succ n ih =>
    have h1 := ih (x / 256)
    have h2 := hf (x % 256) (Nat.mod_lt _ (by decide))
    show 2 ^ 8 * ev8 f n (x / 256) + f (x % 256) < 256 ^ n * 256
    omega
theorem ev8_comp {f g : Nat → Nat} (hf : ∀ v, v < 256 → f v < 256) (n x : Nat) : ev8 g n (ev8 f n x) = ev8 (fun v => g (f v)) n x := by
  induction n generalizing x with
  | zero => rfl
  | succ n ih =>
    have h2 := hf (x % 256) (Nat.mod_lt _ (by decide))
    show 2 ^ 8 * ev8 g n ((2 ^ 8 * ev8 f n (x / 256) + f (x % 256)) / 256) + g ((2 ^ 8 * ev8 f n (x / 256) + f (x % 256)) % 256) = 2 ^ 8 * ev8 (fun v => g (f v)) n (x / 256) + g (f (x % 256))
    rw [show (2 ^ 8 * ev8 f n (x / 256) + f (x % 256)) / 256 = ev8 f n (x / 256) by omega, show (2 ^ 8 * ev8 f n (x / 256) + f (x % 256)) % 256 = f (x % 256) by omega, ih]
def f1 (v : Nat) : Nat := v - ((v / 2) &&& 85)
def f2 (v : Nat) : Nat := (v &&& 51) + ((v / 4) &&& 51)
def f3 (v : Nat) : Nat := (v % 16 + v / 16)
theorem d1 : ∀ v, v < 256 → ∀ b, b < 2 → (v / 2 + 128 * b) &&& 85 = (v / 2) &&& 85 ∧ (v / 2) &&& 85 ≤ v ∧ v < 256 := by decide +kernel
theorem d2 : ∀ v, v < 256 → ∀ b, b < 4 → (v / 4 + 64 * b) &&& 51 = (v / 4) &&& 51 ∧ f2 v < 256 := by decide +kernel
theorem d3 : ∀ v, v < 256 → f3 (f2 (f1 v)) = pcN 8 v ∧ f2 (f1 v) % 16 ≤ 4 ∧ f2 (f1 v) / 16 ≤ 4 ∧ f1 v < 256 := by decide +kernel
theorem st1 (n x : Nat) : (x / 2) &&& mk8 85 n ≤ x % 256 ^ n ∧ x % 256 ^ n - ((x / 2) &&& mk8 85 n) = ev8 f1 n x := by
  induction n generalizing x with
  | zero => simp [mk8, ev8, Nat.mod_one]
  | succ n ih =>
    obtain ⟨i1, i2⟩ := ih (x / 256)
    have hv := Nat.mod_lt x (show 256 > 0 by decide)
    obtain ⟨d, d', _⟩ := d1 (x % 256) hv (x / 256 % 2) (Nat.mod_lt _ (by decide))
    have e : x / 2 = 2 ^ 8 * (x / 256 / 2) + (x % 256 / 2 + 128 * (x / 256 % 2)) := by omega
    have ea : (x / 2) &&& mk8 85 (n + 1) = 2 ^ 8 * ((x / 256 / 2) &&& mk8 85 n) + ((x % 256 / 2) &&& 85) := by
      show (x / 2) &&& (2 ^ 8 * mk8 85 n + 85) = _
      rw [e, and_pow _ _ (by omega) (by decide), d]
    have em : x % 256 ^ (n + 1) = 256 * (x / 256 % 256 ^ n) + x % 256 := by
      rw [Nat.pow_succ, Nat.mul_comm (256 ^ n) 256, Nat.mod_mul]
      omega
    rw [ea, em]
    show _ ∧ _ = 2 ^ 8 * ev8 f1 n (x / 256) + f1 (x % 256)
    rw [← i2]
    unfold f1
    omega
theorem st2 (n x : Nat) : (x &&& mk8 51 n) + ((x / 4) &&& mk8 51 n) = ev8 f2 n x := by
  induction n generalizing x with
  | zero => simp [mk8, ev8]
  | succ n ih =>
    have hv := Nat.mod_lt x (show 256 > 0 by decide)
    obtain ⟨d, _⟩ := d2 (x % 256) hv (x / 256 % 4) (Nat.mod_lt _ (by decide))
    have e : x / 4 = 2 ^ 8 * (x / 256 / 4) + (x % 256 / 4 + 64 * (x / 256 % 4)) := by omega
    have e0 : x = 2 ^ 8 * (x / 256) + x % 256 := by omega
    have ea : (x / 4) &&& mk8 51 (n + 1) = 2 ^ 8 * ((x / 256 / 4) &&& mk8 51 n) + ((x % 256 / 4) &&& 51) := by
      show (x / 4) &&& (2 ^ 8 * mk8 51 n + 51) = _
      rw [e, and_pow _ _ (by omega) (by decide), d]
    have eb : x &&& mk8 51 (n + 1) = 2 ^ 8 * ((x / 256) &&& mk8 51 n) + ((x % 256) &&& 51) := by
      show x &&& (2 ^ 8 * mk8 51 n + 51) = _
      conv => lhs; lhs; rw [e0]
      rw [and_pow _ _ (by omega) (by decide)]
    rw [ea, eb]
    show _ = 2 ^ 8 * ev8 f2 n (x / 256) + f2 (x % 256)
    rw [← ih]
    unfold f2
    omega

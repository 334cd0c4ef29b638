-- ORDERS: states are numbers
def stD (S : List GR) : Nat → Nat
  | 0 => 1
  | l + 1 => stD S l * (lc S l S.length + 1)
theorem stOf_dc {S : List GR} (hO : gOk S) (st : Nat → Nat) (D n : Nat) (hn : n ≤ S.length) : sumN (fun s => if D.testBit s then st (lnS S s) else 0) n = cB (fun s => D.testBit s && lnB S 0 s) n * st 0 + cB (fun s => D.testBit s && lnB S 1 s) n * st 1 + cB (fun s => D.testBit s && lnB S 2 s) n * st 2 + cB (fun s => D.testBit s && lnB S 3 s) n * st 3 := by
  induction n with
  | zero => simp [sumN, cB]
  | succ n ih =>
    have h4 := (ln_lt hO (s := n) (by omega)).1
    show sumN (fun s => if D.testBit s then st (lnS S s) else 0) n + (if D.testBit n then st (lnS S n) else 0) = _
    rw [ih (by omega), cB_s, cB_s, cB_s, cB_s]
    cases D.testBit n with
    | false => simp
    | true =>
      have hc : lnS S n = 0 ∨ lnS S n = 1 ∨ lnS S n = 2 ∨ lnS S n = 3 := by omega
      unfold lnB
      rcases hc with e | e | e | e <;> rw [e] <;> simp [Nat.add_mul] <;> omega
theorem stOf_eq {S : List GR} (hO : gOk S) (st : Nat → Nat) (D : Nat) : stOf S st D = dc S D 0 * st 0 + dc S D 1 * st 1 + dc S D 2 * st 2 + dc S D 3 * st 3 := stOf_dc hO st D S.length (Nat.le_refl _)
theorem lc_sum {S : List GR} (hO : gOk S) (n : Nat) (hn : n ≤ S.length) : lc S 0 n + lc S 1 n + lc S 2 n + lc S 3 n = n := by
  induction n with
  | zero => rfl
  | succ n ih =>
    have h4 := (ln_lt hO (s := n) (by omega)).1
    have := ih (by omega)
    unfold lc at *
    rw [cB_s, cB_s, cB_s, cB_s]
    have hc : lnS S n = 0 ∨ lnS S n = 1 ∨ lnS S n = 2 ∨ lnS S n = 3 := by omega
    unfold lnB at *
    rcases hc with e | e | e | e <;> rw [e] <;> simp <;> omega
theorem amgm2 : ∀ p, p < 25 → ∀ x, x < 25 → x ≤ p → 4 * (x * (p - x)) ≤ p * p := by decide +kernel
theorem amgm3 : ∀ a, a < 25 → ∀ b, b < 25 → a + b ≤ 24 → (a * a / 4) * (b * b / 4) ≤ 1296 := by decide +kernel
theorem prod4 {a b c d : Nat} (h : a + b + c + d ≤ 20) : (a + 1) * (b + 1) * (c + 1) * (d + 1) ≤ 1296 := by
  have h1 := amgm2 (a + b + 2) (by omega) (a + 1) (by omega) (by omega)
  have h2 := amgm2 (c + d + 2) (by omega) (c + 1) (by omega) (by omega)
  have h3 := amgm3 (a + b + 2) (by omega) (c + d + 2) (by omega) (by omega)
  rw [show a + b + 2 - (a + 1) = b + 1 by omega] at h1
  rw [show c + d + 2 - (c + 1) = d + 1 by omega] at h2
  have q1 : (a + 1) * (b + 1) ≤ (a + b + 2) * (a + b + 2) / 4 := by
    rw [Nat.le_div_iff_mul_le (by decide)]
    omega
  have q2 : (c + 1) * (d + 1) ≤ (c + d + 2) * (c + d + 2) / 4 := by
    rw [Nat.le_div_iff_mul_le (by decide)]
    omega
  have q3 := Nat.mul_le_mul q1 q2
  rw [Nat.mul_assoc ((a + 1) * (b + 1))]
  omega
theorem radix1 {n x y : Nat} (hx : x ≤ n) : x * 1 + y * (1 * (n + 1)) = x + (n + 1) * y := by
  rw [Nat.mul_one, Nat.one_mul, Nat.mul_comm y]
theorem stD_form (S : List GR) (a b c d : Nat) : a * stD S 0 + b * stD S 1 + c * stD S 2 + d * stD S 3 = a + (lc S 0 S.length + 1) * (b + (lc S 1 S.length + 1) * (c + (lc S 2 S.length + 1) * d)) := by
  show a * 1 + b * (1 * (lc S 0 S.length + 1)) + c * (1 * (lc S 0 S.length + 1) * (lc S 1 S.length + 1)) + d * (1 * (lc S 0 S.length + 1) * (lc S 1 S.length + 1) * (lc S 2 S.length + 1)) = _
  generalize lc S 0 S.length + 1 = p
  generalize lc S 1 S.length + 1 = q
  generalize lc S 2 S.length + 1 = r
  rw [Nat.one_mul, Nat.mul_one, Nat.mul_add, Nat.mul_add, Nat.mul_add, Nat.mul_comm b p, Nat.mul_comm c (p * q), Nat.mul_comm d (p * q * r)]
  rw [Nat.mul_assoc p q c, Nat.mul_assoc (p * q) r d, Nat.mul_assoc p q (r * d)]
  omega
theorem mixr {p x y x' y' : Nat} (hx : x < p) (hx' : x' < p) (h : x + p * y = x' + p * y') : x = x' ∧ y = y' := by
  have e1 : (x + p * y) % p = x := by rw [Nat.add_mul_mod_self_left, Nat.mod_eq_of_lt hx]
  have e2 : (x' + p * y') % p = x' := by rw [Nat.add_mul_mod_self_left, Nat.mod_eq_of_lt hx']
  have e3 : x = x' := by rw [← e1, h, e2]
  refine ⟨e3, ?_⟩
  have : p * y = p * y' := by omega
  exact Nat.eq_of_mul_eq_mul_left (by omega) this
theorem st_inj {S : List GR} (hO : gOk S) {D D' : Nat} (h : lpre S D) (h' : lpre S D') (e : stOf S (stD S) D = stOf S (stD S) D') : D = D' := by
  rw [stOf_eq hO, stOf_eq hO, stD_form, stD_form] at e
  have a0 := dc_le S D 0
  have a1 := dc_le S D 1
  have a2 := dc_le S D 2
  have b0 := dc_le S D' 0
  have b1 := dc_le S D' 1
  have b2 := dc_le S D' 2
  obtain ⟨e0, f0⟩ := mixr (by omega) (by omega) e
  obtain ⟨e1, f1⟩ := mixr (by omega) (by omega) f0
  obtain ⟨e2, f2⟩ := mixr (by omega) (by omega) f1
  refine isD_uq hO (lpre_isD h) (lpre_isD h') (fun l hl => ?_)
  have : l = 0 ∨ l = 1 ∨ l = 2 ∨ l = 3 := by omega
  rcases this with rfl | rfl | rfl | rfl <;> assumption
theorem digit {p x y m : Nat} (hx : x < p) (hy : y < m) : x + p * y < p * m := by
  have : p * (y + 1) ≤ p * m := Nat.mul_le_mul_left p hy
  rw [Nat.mul_succ] at this
  omega
theorem st_lt {S : List GR} (hO : gOk S) (hl : S.length ≤ 20) (D : Nat) : stOf S (stD S) D < 1296 := by
  rw [stOf_eq hO, stD_form]
  have hs := lc_sum hO S.length (Nat.le_refl _)
  have hp := prod4 (a := lc S 0 S.length) (b := lc S 1 S.length) (c := lc S 2 S.length) (d := lc S 3 S.length) (by omega)
  have a0 := dc_le S D 0
  have a1 := dc_le S D 1
  have a2 := dc_le S D 2
  have a3 := dc_le S D 3
  have q := digit (p := lc S 0 S.length + 1) (x := dc S D 0) (by omega) (digit (p := lc S 1 S.length + 1) (x := dc S D 1) (by omega) (digit (p := lc S 2 S.length + 1) (x := dc S D 2) (m := lc S 3 S.length + 1) (y := dc S D 3) (by omega) (by omega)))
  rw [Nat.mul_assoc, Nat.mul_assoc] at hp
  exact Nat.lt_of_lt_of_le q hp
-- THE SUM by lines
def wF (S : List GR) (m D : Nat) (s : Nat) : Nat := if freeB S D s then wyS S m (D ||| 2 ^ s) else 0
theorem wyS_s (S : List GR) (m D : Nat) : wyS S (m + 1) D = sumN (wF S m D) S.length := rfl
def inL (S : List GR) (f : Nat → Nat) (l s : Nat) : Nat := if lnB S l s then f s else 0
theorem sum4 {S : List GR} (hO : gOk S) (f : Nat → Nat) (n : Nat) (hn : n ≤ S.length) : sumN f n = sumN (inL S f 0) n + sumN (inL S f 1) n + sumN (inL S f 2) n + sumN (inL S f 3) n := by
  induction n with
  | zero => rfl
  | succ n ih =>
    have h4 := (ln_lt hO (s := n) (by omega)).1
    show sumN f n + f n = (sumN (inL S f 0) n + inL S f 0 n) + (sumN (inL S f 1) n + inL S f 1 n) + (sumN (inL S f 2) n + inL S f 2 n) + (sumN (inL S f 3) n + inL S f 3 n)
    rw [ih (by omega)]
    have hc : lnS S n = 0 ∨ lnS S n = 1 ∨ lnS S n = 2 ∨ lnS S n = 3 := by omega
    unfold inL lnB
    rcases hc with e | e | e | e <;> rw [e] <;> simp <;> omega
theorem free_next {S : List GR} (hO : gOk S) (hB : gB S) (hs : gSort S) {D s : Nat} (h : lpre S D) (hsl : s < S.length) (hf : freeB S D s = true) : lc S (lnS S s) s = dc S D (lnS S s) := by
  obtain ⟨f1, f2⟩ := fr_bits hf
  have hI := lpre_isD h
  have h1 : ¬ lc S (lnS S s) s < dc S D (lnS S s) := fun z => by
    have := (hI s).mpr ⟨hsl, z⟩
    rw [f1] at this
    cases this
  refine Nat.le_antisymm (Nat.le_of_not_lt (fun z => ?_)) (Nat.le_of_not_lt h1)
  obtain ⟨t, t1, t2, t3⟩ := lc_ex S (lnS S s) (dc S D (lnS S s)) s z
  have := f2 t (led_near hB hs t1 hsl (ln_near hO hs t1 hsl t2).1)
  have := ((hI t).mp this).2
  rw [t2] at this
  omega
/-- of a line only the next can be free -/
theorem line_sum {S : List GR} (hO : gOk S) (hB : gB S) (hs : gSort S) {D m l : Nat} (h : lpre S D) : (lc S l S.length ≤ dc S D l ∧ sumN (inL S (wF S m D) l) S.length = 0) ∨ ∃ s, s < S.length ∧ lnS S s = l ∧ lc S l s = dc S D l ∧ dc S D l < lc S l S.length ∧ sumN (inL S (wF S m D) l) S.length = wF S m D s := by
  have key : ∀ s, s < S.length → inL S (wF S m D) l s ≠ 0 → lnS S s = l ∧ lc S l s = dc S D l := fun s hsl hne => by
    unfold inL at hne
    cases c : lnB S l s with
    | false => rw [c] at hne; exact absurd rfl hne
    | true =>
      rw [c] at hne
      have hln := lnB_iff.mp c
      refine ⟨hln, ?_⟩
      cases d : freeB S D s with
      | false => exact absurd (by unfold wF; rw [d]; rfl) hne
      | true =>
        have := free_next hO hB hs h hsl d
        rw [hln] at this
        exact this
  by_cases c : lc S l S.length ≤ dc S D l
  · refine Or.inl ⟨c, sumN_0 _ (fun i hi => Classical.byContradiction (fun z => ?_))⟩
    obtain ⟨k1, k2⟩ := key i hi z
    have := lc_lt S hi k1
    omega
  · obtain ⟨s, s1, s2, s3⟩ := lc_ex S l (dc S D l) S.length (by omega)
    refine Or.inr ⟨s, s1, s2, s3, by omega, ?_⟩
    rw [sumN_one S.length s1 (fun i hi hn => Classical.byContradiction (fun z => ?_))]
    · unfold inL
      rw [lnB_iff.mpr s2]
      rfl
    · obtain ⟨k1, k2⟩ := key i hi z
      exact hn (lc_uq k1 s2 (by rw [k2, s3]))
theorem wyS_le {S : List GR} (hO : gOk S) (hB : gB S) (hs : gSort S) (m : Nat) : ∀ D, lpre S D → wyS S m D ≤ 4 ^ m := by
  induction m with
  | zero => intro D _; exact Nat.le_refl _
  | succ m ih =>
    intro D hD
    have hw : ∀ s, s < S.length → wF S m D s ≤ 4 ^ m := fun s hsl => by
      unfold wF
      cases c : freeB S D s with
      | false => exact Nat.zero_le _
      | true => exact ih _ (lpre_add hO hB hs hD hsl c)
    have hl : ∀ l, sumN (inL S (wF S m D) l) S.length ≤ 4 ^ m := fun l => by
      rcases line_sum hO hB hs (m := m) (l := l) hD with ⟨_, e⟩ | ⟨s, s1, _, _, _, e⟩
      · rw [e]; exact Nat.zero_le _
      · rw [e]; exact hw s s1
    rw [wyS_s, sum4 hO _ _ (Nat.le_refl _), Nat.pow_succ]
    have := hl 0
    have := hl 1
    have := hl 2
    have := hl 3
    omega
theorem wyS_40 {S : List GR} (hO : gOk S) (hB : gB S) (hs : gSort S) (hl : S.length ≤ 20) {m : Nat} (hm : m ≤ 20) {D : Nat} (h : lpre S D) : wyS S m D ≤ 1099511627776 := by
  have h1 := wyS_le hO hB hs m D h
  have h2 : (4 : Nat) ^ m ≤ 4 ^ 20 := Nat.pow_le_pow_right (by decide) hm
  have h3 : (4 : Nat) ^ 20 = 1099511627776 := by decide
  omega

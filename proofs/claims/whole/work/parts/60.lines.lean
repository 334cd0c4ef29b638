-- ORDERS: lines, and what is worked of each
theorem cB_all (n : Nat) : cB (fun _ => true) n = n := by
  induction n with
  | zero => rfl
  | succ n ih => rw [cB_s, ih]; rfl
theorem cB_pre (B : Nat → Bool) (s n : Nat) : cB (fun i => B i && decide (i < s)) n = cB B (min s n) := by
  induction n with
  | zero => rw [Nat.min_zero]; rfl
  | succ n ih =>
    rw [cB_s, ih]
    by_cases c : n < s
    · rw [show min s (n + 1) = n + 1 by omega, show min s n = n by omega, cB_s]
      simp [c]
    · rw [show min s (n + 1) = s by omega, show min s n = s by omega]
      simp [c]
theorem sumN_one {f : Nat → Nat} {s : Nat} (n : Nat) (hs : s < n) (h : ∀ i, i < n → i ≠ s → f i = 0) : sumN f n = f s := by
  induction n with
  | zero => omega
  | succ n ih =>
    show sumN f n + f n = f s
    by_cases c : s = n
    · subst c
      have : sumN f s = 0 := by
        have := sumN_le (f := f) (c := 0) s (fun i hi => by rw [h i (by omega) (by omega)]; exact Nat.le_refl _)
        omega
      omega
    · rw [ih (by omega) (fun i hi hn => h i (by omega) hn), h n (by omega) (by omega)]
      omega
theorem sumN_0 {f : Nat → Nat} (n : Nat) (h : ∀ i, i < n → f i = 0) : sumN f n = 0 := by
  have := sumN_le (f := f) (c := 0) n (fun i hi => by rw [h i hi]; exact Nat.le_refl _)
  omega
theorem sumN_plus (f g : Nat → Nat) (n : Nat) : sumN (fun i => f i + g i) n = sumN f n + sumN g n := by
  induction n with
  | zero => rfl
  | succ n ih =>
    show sumN (fun i => f i + g i) n + (f n + g n) = (sumN f n + f n) + (sumN g n + g n)
    rw [ih]
    omega
theorem sumN_add1 {f g : Nat → Nat} {s : Nat} (n : Nat) (hs : s < n) (h0 : g s = 0) (h : ∀ i, i < n → i ≠ s → f i = g i) : sumN f n = sumN g n + f s := by
  induction n with
  | zero => omega
  | succ n ih =>
    show sumN f n + f n = (sumN g n + g n) + f s
    by_cases c : s = n
    · rw [sumN_congr n (fun i hi => h i (by omega) (by omega)), ← c, h0]
      omega
    · rw [ih (by omega) (fun i hi hn => h i (by omega) hn), h n (by omega) (by omega)]
      omega
def lnB (S : List GR) (l : Nat) : Nat → Bool := fun s => lnS S s == l
def lc (S : List GR) (l n : Nat) : Nat := cB (lnB S l) n
def dc (S : List GR) (D l : Nat) : Nat := cB (fun s => D.testBit s && lnB S l s) S.length
theorem lnB_iff {S : List GR} {l s : Nat} : lnB S l s = true ↔ lnS S s = l := by
  unfold lnB
  exact beq_iff_eq
theorem ln_lt {S : List GR} (hO : gOk S) {s : Nat} (hs : s < S.length) : lnS S s < 4 ∧ 0 ≤ gS S (s : Int) ∧ gS S (s : Int) < 7 ∧ 0 ≤ rS S (s : Int) ∧ rS S (s : Int) < 12 := by
  obtain ⟨x, x1, x2, x3, x4, x5⟩ := S_at (S := S) (s := (s : Int)) (by omega) (by omega)
  have := hO _ x x1
  have h1 : 0 ≤ gS S (s : Int) ∧ gS S (s : Int) < 7 := by omega
  refine ⟨?_, h1.1, h1.2, by omega, by omega⟩
  unfold lnS
  omega
theorem ln_near {S : List GR} (hO : gOk S) (hs : gSort S) {a b : Nat} (h : a < b) (hb : b < S.length) (e : lnS S a = lnS S b) : adjg (gS S (a : Int)) (gS S (b : Int)) ∧ rS S (a : Int) < rS S (b : Int) := by
  have ha := ln_lt hO (s := a) (by omega)
  have hb' := ln_lt hO hb
  have hg : adjg (gS S (a : Int)) (gS S (b : Int)) := by
    unfold lnS at e
    unfold adjg
    omega
  refine ⟨hg, ?_⟩
  obtain ⟨x, x1, x2, x3, x4, x5⟩ := S_at (S := S) (s := (a : Int)) (by omega) (by omega)
  obtain ⟨y, y1, y2, y3, y4, y5⟩ := S_at (S := S) (s := (b : Int)) (by omega) (by omega)
  have := hs _ _ x y (by omega) x1 y1
  rw [x2, y2] at hg
  rw [x4, y4]
  unfold adjg at hg
  omega
theorem lc_row {S : List GR} (hO : gOk S) (hs : gSort S) {s : Nat} (h : s < S.length) : lc S (lnS S s) s ≤ (rS S (s : Int)).toNat ∧ lc S (lnS S s) s < 12 := by
  have hr := ln_lt hO h
  have q : lc S (lnS S s) s ≤ cB (fun _ => true) (rS S (s : Int)).toNat := by
    unfold lc
    refine cB_inj (fun i => (rS S (i : Int)).toNat) s (fun i hi hb => ⟨?_, rfl⟩) (fun i j hi hj hbi hbj he => ?_)
    · have := (ln_near hO hs hi h (lnB_iff.mp hb)).2
      have := (ln_lt hO (s := i) (by omega)).2.2.2.1
      omega
    · have he' : (rS S (i : Int)).toNat = (rS S (j : Int)).toNat := he
      have r1 := (ln_lt hO (s := i) (by omega)).2.2.2.1
      have r2 := (ln_lt hO (s := j) (by omega)).2.2.2.1
      rcases Nat.lt_trichotomy i j with c | c | c
      · have := (ln_near hO hs c (by omega) ((lnB_iff.mp hbi).trans (lnB_iff.mp hbj).symm)).2
        omega
      · exact c
      · have := (ln_near hO hs c (by omega) ((lnB_iff.mp hbj).trans (lnB_iff.mp hbi).symm)).2
        omega
  rw [cB_all] at q
  exact ⟨q, by omega⟩
theorem lc_12 {S : List GR} (hO : gOk S) (hs : gSort S) (l n : Nat) (hn : n ≤ S.length) : lc S l n ≤ 12 := by
  induction n with
  | zero => exact Nat.zero_le _
  | succ n ih =>
    have := ih (by omega)
    show cB (lnB S l) (n + 1) ≤ 12
    rw [cB_s]
    cases c : lnB S l n with
    | false => simp; exact this
    | true =>
      have := (lc_row hO hs (s := n) (by omega)).2
      rw [lnB_iff.mp c] at this
      have e : cB (lnB S l) n = lc S l n := rfl
      simp
      omega
/-- the k-th of a line -/
theorem lc_ex (S : List GR) (l k n : Nat) (h : k < lc S l n) : ∃ s, s < n ∧ lnS S s = l ∧ lc S l s = k := by
  induction n with
  | zero => exact absurd h (Nat.not_lt_zero _)
  | succ n ih =>
    have e : lc S l (n + 1) = lc S l n + (if lnB S l n then 1 else 0) := cB_s _ _
    by_cases c : k < lc S l n
    · obtain ⟨s, s1, s2, s3⟩ := ih c
      exact ⟨s, by omega, s2, s3⟩
    · cases d : lnB S l n with
      | false => rw [d] at e; simp at e; omega
      | true => rw [d] at e; simp at e; exact ⟨n, by omega, lnB_iff.mp d, by omega⟩
theorem lc_lt (S : List GR) {l s n : Nat} (h : s < n) (hl : lnS S s = l) : lc S l s < lc S l n := by
  induction n with
  | zero => omega
  | succ n ih =>
    have e : lc S l (n + 1) = lc S l n + (if lnB S l n then 1 else 0) := cB_s _ _
    by_cases c : s = n
    · subst c
      rw [lnB_iff.mpr hl] at e
      simp at e
      omega
    · have := ih (by omega)
      omega
theorem lc_uq {S : List GR} {l s t : Nat} (h1 : lnS S s = l) (h2 : lnS S t = l) (h : lc S l s = lc S l t) : s = t := by
  rcases Nat.lt_trichotomy s t with c | c | c
  · have := lc_lt S c h1; omega
  · exact c
  · have := lc_lt S c h2; omega
/-- of line l the first c l ones -/
def isD (S : List GR) (c : Nat → Nat) (D : Nat) : Prop := ∀ i, D.testBit i = true ↔ i < S.length ∧ lc S (lnS S i) i < c (lnS S i)
theorem isD_lpre {S : List GR} {c : Nat → Nat} {D : Nat} (h : isD S c D) : lpre S D := by
  refine ⟨?_, fun s t hst ht e hb => ?_⟩
  · refine Nat.lt_pow_two_of_testBit _ (fun i hi => ?_)
    cases q : D.testBit i with
    | false => rfl
    | true => have := ((h i).mp q).1; omega
  · have := ((h t).mp hb).2
    have q := lc_lt S hst (rfl : lnS S s = lnS S s)
    rw [← e] at this
    exact (h s).mpr ⟨by omega, by omega⟩
theorem lpre_isD {S : List GR} {D : Nat} (h : lpre S D) : isD S (dc S D) D := by
  intro i
  by_cases hi : i < S.length
  · constructor
    · intro hb
      refine ⟨hi, ?_⟩
      have e1 := cB_pre (lnB S (lnS S i)) i S.length
      rw [show min i S.length = i by omega] at e1
      have e2 := cB_add (B := fun s => lnB S (lnS S i) s && decide (s < i) || s == i) (C := fun s => lnB S (lnS S i) s && decide (s < i)) (s := i) S.length hi (by simp) (by simp) (fun j _ hn => by simp [hn])
      have e3 : cB (fun s => lnB S (lnS S i) s && decide (s < i) || s == i) S.length ≤ dc S D (lnS S i) := cB_mono _ (fun j hj hb' => by
        rcases Bool.or_eq_true_iff.mp hb' with q | q
        · rw [Bool.and_eq_true, decide_eq_true_eq] at q
          rw [Bool.and_eq_true]
          exact ⟨h.2 j i q.2 hi (lnB_iff.mp q.1) hb, q.1⟩
        · have : j = i := by simpa using q
          rw [this, Bool.and_eq_true]
          exact ⟨hb, lnB_iff.mpr rfl⟩)
      have e4 : lc S (lnS S i) i = cB (lnB S (lnS S i)) i := rfl
      omega
    · intro ⟨_, hlt⟩
      cases q : D.testBit i with
      | true => rfl
      | false =>
        exfalso
        have e1 := cB_pre (lnB S (lnS S i)) i S.length
        rw [show min i S.length = i by omega] at e1
        have e3 : dc S D (lnS S i) ≤ cB (fun s => lnB S (lnS S i) s && decide (s < i)) S.length := cB_mono _ (fun j hj hb' => by
          rw [Bool.and_eq_true] at hb'
          rw [Bool.and_eq_true, decide_eq_true_eq]
          refine ⟨hb'.2, ?_⟩
          refine Classical.byContradiction (fun z => ?_)
          have hne : j ≠ i := fun w => by rw [w, q] at hb'; cases hb'.1
          have := h.2 i j (by omega) hj (lnB_iff.mp hb'.2).symm hb'.1
          rw [q] at this
          cases this)
        have e4 : lc S (lnS S i) i = cB (lnB S (lnS S i)) i := rfl
        omega
  · constructor
    · intro hb
      exfalso
      have : D.testBit i = false := Nat.testBit_lt_two_pow (Nat.lt_of_lt_of_le h.1 (Nat.pow_le_pow_right (by decide) (by omega)))
      rw [this] at hb
      cases hb
    · intro ⟨z, _⟩
      omega
theorem dc_le (S : List GR) (D l : Nat) : dc S D l ≤ lc S l S.length := cB_mono _ (fun i _ hb => by rw [Bool.and_eq_true] at hb; exact hb.2)
theorem lc_min (S : List GR) (l k n : Nat) : cB (fun s => lnB S l s && decide (lc S l s < k)) n = min k (lc S l n) := by
  induction n with
  | zero => exact (Nat.min_zero _).symm
  | succ n ih =>
    have e : lc S l (n + 1) = lc S l n + (if lnB S l n then 1 else 0) := cB_s _ _
    rw [cB_s, ih, e]
    cases lnB S l n with
    | false => simp
    | true =>
      simp
      split <;> omega
theorem isD_dc {S : List GR} {c : Nat → Nat} {D : Nat} (h : isD S c D) (l : Nat) (hl : c l ≤ lc S l S.length) : dc S D l = c l := by
  have e : dc S D l = cB (fun s => lnB S l s && decide (lc S l s < c l)) S.length := cB_congr _ (fun i hi => by
    cases q : lnB S l i with
    | false => simp
    | true =>
      have hln := lnB_iff.mp q
      have := h i
      rw [hln] at this
      cases w : D.testBit i with
      | true => have := (this.mp w).2; simp [this]
      | false =>
        have : ¬ lc S l i < c l := fun z => by
          have := this.mpr ⟨hi, z⟩
          rw [w] at this
          cases this
        simp [this])
  rw [e, lc_min]
  omega
theorem isD_uq {S : List GR} {c c' : Nat → Nat} {D D' : Nat} (hO : gOk S) (h : isD S c D) (h' : isD S c' D') (e : ∀ l, l < 4 → c l = c' l) : D = D' := by
  apply Nat.eq_of_testBit_eq
  intro i
  have q : D.testBit i = true ↔ D'.testBit i = true := by
    rw [h i, h' i]
    constructor
    · intro ⟨a, b⟩
      rw [e _ (ln_lt hO a).1] at b
      exact ⟨a, b⟩
    · intro ⟨a, b⟩
      rw [← e _ (ln_lt hO a).1] at b
      exact ⟨a, b⟩
  cases w : D.testBit i with
  | true => exact (q.mp w).symm
  | false =>
    cases w' : D'.testBit i with
    | false => rfl
    | true => rw [q.mpr w'] at w; cases w
-- free ones
theorem fr_bits {S : List GR} {D s : Nat} (h : freeB S D s = true) : D.testBit s = false ∧ ∀ i, led S i s → D.testBit i = true := freeB_iff.mp h
theorem lpre_add {S : List GR} (hO : gOk S) (hB : gB S) (hs : gSort S) {D s : Nat} (h : lpre S D) (hsl : s < S.length) (hf : freeB S D s = true) : lpre S (D ||| 2 ^ s) := by
  obtain ⟨f1, f2⟩ := fr_bits hf
  refine ⟨Nat.or_lt_two_pow h.1 (Nat.pow_lt_pow_right (by decide) hsl), fun a b hab hb e hbit => ?_⟩
  rcases (or_bit _ _ _).mp hbit with q | q
  · exact (or_bit _ _ _).mpr (Or.inl (h.2 a b hab hb e q))
  · subst q
    exact (or_bit _ _ _).mpr (Or.inl (f2 a (led_near hB hs hab hb (ln_near hO hs hab hb e).1)))
theorem pcS_cB (D n : Nat) : pcS D n = cB (fun s => D.testBit s) n := rfl
theorem pc_add {D s n : Nat} (hs : s < n) (h : D.testBit s = false) : pcS (D ||| 2 ^ s) n = pcS D n + 1 := by
  rw [pcS_cB, pcS_cB]
  refine cB_add n hs ((or_bit _ _ _).mpr (Or.inr rfl)) h (fun i _ hn => ?_)
  have := or_bit D s i
  cases w : D.testBit i with
  | true => exact this.mpr (Or.inl w)
  | false =>
    cases w' : (D ||| 2 ^ s).testBit i with
    | false => rfl
    | true =>
      rcases this.mp w' with q | q
      · rw [w] at q; cases q
      · exact absurd q hn
theorem pc_le (D n : Nat) : pcS D n ≤ n := by rw [pcS_cB]; exact cB_le _ _
theorem st_add {S : List GR} {st : Nat → Nat} {D s : Nat} (hs : s < S.length) (h : D.testBit s = false) : stOf S st (D ||| 2 ^ s) = stOf S st D + st (lnS S s) := by
  unfold stOf
  rw [sumN_add1 (g := fun i => if D.testBit i = true then st (lnS S i) else 0) S.length hs (by simp [h]) (fun i _ hn => by
    have := or_bit D s i
    cases w : D.testBit i with
    | true => rw [this.mpr (Or.inl w)]
    | false =>
      cases w' : (D ||| 2 ^ s).testBit i with
      | false => rfl
      | true =>
        rcases this.mp w' with q | q
        · rw [w] at q; cases q
        · exact absurd q hn)]
  rw [(or_bit D s s).mpr (Or.inr rfl)]
  rfl

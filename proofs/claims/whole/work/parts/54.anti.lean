-- WHO IS AHEAD OF WHOM
def led (S : List GR) (a b : Nat) : Prop := (bS S (b : Int)).testBit a = true
theorem gB_at {S : List GR} (hB : gB S) {c : Nat} (hc : c < S.length) (j : Nat) : led S j c ↔ ∃ b : Nat, b < c ∧ rS S (b : Int) < rS S (c : Int) ∧ adjg (gS S (b : Int)) (gS S (c : Int)) ∧ (j = b ∨ led S j b) := by
  obtain ⟨x, x1, x2, x3, x4, x5⟩ := S_at (S := S) (s := (c : Int)) (by omega) (by omega)
  rw [show ((c : Int)).toNat = c by omega] at x1
  obtain ⟨m, m1, m2, m3⟩ := hB c x x1
  have e : bS S (c : Int) = m := by rw [x5, m1]; rfl
  have key : ∀ (b : Nat), b < c → ∃ y, S[b]? = some y ∧ gS S (b : Int) = y.2.1 ∧ rS S (b : Int) = y.1 ∧ bS S (b : Int) = y.2.2.2.2.toNat := by
    intro b hb
    obtain ⟨y, y1, y2, y3, y4, y5⟩ := S_at (S := S) (s := (b : Int)) (by omega) (by omega)
    rw [show ((b : Int)).toNat = b by omega] at y1
    exact ⟨y, y1, y2, y4, y5⟩
  unfold led
  rw [e, m3 j]
  constructor
  · intro ⟨b, y, h1, h2, h3, h4, h5⟩
    obtain ⟨y', y1, y2, y4, y5⟩ := key b h1
    rw [h2] at y1
    cases y1
    exact ⟨b, h1, by rw [y4, x4]; exact h3, by rw [y2, x2]; exact h4, by rw [y5]; exact h5⟩
  · intro ⟨b, h1, h3, h4, h5⟩
    obtain ⟨y, y1, y2, y4, y5⟩ := key b h1
    exact ⟨b, y, h1, y1, by rw [y4, x4] at h3; exact h3, by rw [y2, x2] at h4; exact h4, by rw [y5] at h5; exact h5⟩
theorem led_rng {S : List GR} (hB : gB S) {a b : Nat} (h : led S a b) : a < b ∧ b < S.length := by
  have hb : b < S.length := by
    refine Nat.lt_of_not_le (fun z => ?_)
    have : bS S (b : Int) = 0 := by
      unfold bS
      rw [show ((b : Int)).toNat = b by omega, List.getElem?_eq_none z]
    unfold led at h
    rw [this, Nat.zero_testBit] at h
    cases h
  refine ⟨?_, hb⟩
  induction b using Nat.strongRecOn generalizing a with
  | ind b ih =>
    obtain ⟨c, c1, c2, c3, c4⟩ := (gB_at hB hb a).mp h
    rcases c4 with e | e
    · omega
    · have := ih c c1 e (by omega)
      omega
theorem led_near {S : List GR} (hB : gB S) (hs : gSort S) {a b : Nat} (h : a < b) (hb : b < S.length) (hg : adjg (gS S (a : Int)) (gS S (b : Int))) : led S a b := by
  refine (gB_at hB hb a).mpr ⟨a, h, ?_, hg, Or.inl rfl⟩
  obtain ⟨x, x1, x2, x3, x4, x5⟩ := S_at (S := S) (s := (a : Int)) (by omega) (by omega)
  obtain ⟨y, y1, y2, y3, y4, y5⟩ := S_at (S := S) (s := (b : Int)) (by omega) (by omega)
  have := hs _ _ x y (by omega) x1 y1
  rw [x2, y2] at hg
  rw [x4, y4]
  unfold adjg at hg
  omega
theorem led_tr {S : List GR} (hB : gB S) {a b c : Nat} (h1 : led S a b) (h2 : led S b c) : led S a c := by
  have hc := (led_rng hB h2).2
  induction c using Nat.strongRecOn with
  | ind c ih =>
    obtain ⟨d, d1, d2, d3, d4⟩ := (gB_at hB hc b).mp h2
    refine (gB_at hB hc a).mpr ⟨d, d1, d2, d3, Or.inr ?_⟩
    rcases d4 with e | e
    · rw [← e]; exact h1
    · exact ih d d1 e (by omega)
theorem led_mid {S : List GR} (hB : gB S) {a b : Nat} {g : Int} (h : led S a b) (hg : (gS S (a : Int) < g ∧ g < gS S (b : Int)) ∨ (gS S (b : Int) < g ∧ g < gS S (a : Int))) : ∃ c : Nat, c < S.length ∧ gS S (c : Int) = g ∧ led S a c ∧ led S c b := by
  have hb := (led_rng hB h).2
  induction b using Nat.strongRecOn with
  | ind b ih =>
    obtain ⟨d, d1, d2, d3, d4⟩ := (gB_at hB hb a).mp h
    have hdb : led S d b := (gB_at hB hb d).mpr ⟨d, d1, d2, d3, Or.inl rfl⟩
    unfold adjg at d3
    rcases d4 with e | e
    · exfalso
      rw [← e] at d3
      omega
    · by_cases c : gS S (d : Int) = g
      · exact ⟨d, by omega, c, e, hdb⟩
      · obtain ⟨f, f1, f2, f3, f4⟩ := ih d d1 e (by omega) (by omega)
        exact ⟨f, f1, f2, f3, led_tr hB f4 hdb⟩
def lft (S : List GR) (t s : Nat) : Prop := gS S (t : Int) < gS S (s : Int) ∧ ¬ led S s t ∧ ¬ led S t s
theorem lft_tr {S : List GR} (hB : gB S) (hs : gSort S) {t s u : Nat} (hsl : s < S.length) (h1 : lft S t s) (h2 : lft S s u) : lft S t u := by
  obtain ⟨a1, a2, a3⟩ := h1
  obtain ⟨b1, b2, b3⟩ := h2
  have cmp : ∀ c : Nat, c < S.length → gS S (c : Int) = gS S (s : Int) → c = s ∨ led S c s ∨ led S s c := by
    intro c hc hg
    rcases Nat.lt_trichotomy c s with e | e | e
    · exact Or.inr (Or.inl (led_near hB hs e hsl (by unfold adjg; omega)))
    · exact Or.inl e
    · exact Or.inr (Or.inr (led_near hB hs e hc (by unfold adjg; omega)))
  refine ⟨by omega, fun h => ?_, fun h => ?_⟩
  · obtain ⟨c, c1, c2, c3, c4⟩ := led_mid hB h (g := gS S (s : Int)) (by omega)
    rcases cmp c c1 c2 with e | e | e
    · rw [e] at c4; exact a2 c4
    · exact b2 (led_tr hB c3 e)
    · exact a2 (led_tr hB e c4)
  · obtain ⟨c, c1, c2, c3, c4⟩ := led_mid hB h (g := gS S (s : Int)) (by omega)
    rcases cmp c c1 c2 with e | e | e
    · rw [e] at c3; exact a3 c3
    · exact a3 (led_tr hB c3 e)
    · exact b3 (led_tr hB e c4)
-- SETS none of whom is ahead of another
def cB (B : Nat → Bool) (n : Nat) : Nat := sumN (fun i => if B i then 1 else 0) n
theorem cB_s (B : Nat → Bool) (n : Nat) : cB B (n + 1) = cB B n + (if B n then 1 else 0) := rfl
theorem cB_le (B : Nat → Bool) (n : Nat) : cB B n ≤ n := by
  induction n with
  | zero => exact Nat.le_refl _
  | succ n ih =>
    rw [cB_s]
    split <;> omega
theorem cB_congr {B C : Nat → Bool} (n : Nat) (h : ∀ i, i < n → B i = C i) : cB B n = cB C n := sumN_congr n (fun i hi => by rw [h i hi])
theorem cB_mono {B C : Nat → Bool} (n : Nat) (h : ∀ i, i < n → B i = true → C i = true) : cB B n ≤ cB C n := by
  induction n with
  | zero => exact Nat.le_refl _
  | succ n ih =>
    have h1 := ih (fun i hi => h i (by omega))
    have h2 := h n (by omega)
    rw [cB_s, cB_s]
    cases e : B n with
    | false => simp; omega
    | true => rw [h2 e]; simp; omega
theorem cB_0 {B : Nat → Bool} (n : Nat) (h : ∀ i, i < n → B i = false) : cB B n = 0 := by
  induction n with
  | zero => rfl
  | succ n ih => rw [cB_s, ih (fun i hi => h i (by omega)), h n (by omega)]; rfl
theorem cB_add {B C : Nat → Bool} {s : Nat} (n : Nat) (hs : s < n) (h1 : B s = true) (h2 : C s = false) (h : ∀ i, i < n → i ≠ s → B i = C i) : cB B n = cB C n + 1 := by
  induction n with
  | zero => omega
  | succ n ih =>
    rw [cB_s, cB_s]
    by_cases c : s = n
    · rw [← c, h1, h2, c, cB_congr n (fun i hi => h i (by omega) (by omega))]
      rfl
    · rw [ih (by omega) (fun i hi hn => h i (by omega) hn), h n (by omega) (by omega)]
      omega
theorem cB_or {B C D : Nat → Bool} (n : Nat) (h : ∀ i, i < n → B i = true → C i = true ∨ D i = true) : cB B n ≤ cB C n + cB D n := by
  induction n with
  | zero => exact Nat.le_refl _
  | succ n ih =>
    have h1 := ih (fun i hi => h i (by omega))
    have h2 := h n (by omega)
    rw [cB_s, cB_s, cB_s]
    cases e : B n with
    | false => simp; omega
    | true => rcases h2 e with q | q <;> rw [q] <;> simp <;> split <;> omega
theorem cB_inj {B C : Nat → Bool} {n : Nat} (f : Nat → Nat) (m : Nat) (h : ∀ i, i < m → B i = true → f i < n ∧ C (f i) = true) (hi : ∀ i j, i < m → j < m → B i = true → B j = true → f i = f j → i = j) : cB B m ≤ cB C n := by
  induction m generalizing C with
  | zero => exact Nat.zero_le _
  | succ m ih =>
    rw [cB_s]
    cases e : B m with
    | false =>
      have := ih (C := C) (fun i hi => h i (by omega)) (fun i j a b => hi i j (by omega) (by omega))
      simp
      exact this
    | true =>
      obtain ⟨h1, h2⟩ := h m (by omega) e
      have := ih (C := fun i => C i && !(i == f m)) (fun i hi' hb => by
        obtain ⟨q1, q2⟩ := h i (by omega) hb
        refine ⟨q1, ?_⟩
        have : f i ≠ f m := fun z => by
          have := hi i m (by omega) (by omega) hb e z
          omega
        simp [q2, this]) (fun i j a b => hi i j (by omega) (by omega))
      have e2 := cB_add (B := C) (C := fun i => C i && !(i == f m)) n h1 h2 (by simp) (fun i hi' hn => by simp [hn])
      simp
      omega
theorem ex_max (f : Nat → Int) (p : Nat → Prop) (n : Nat) (h : ∃ i, i < n ∧ p i) : ∃ t, t < n ∧ p t ∧ ∀ i, i < n → p i → f i ≤ f t := by
  induction n with
  | zero => obtain ⟨i, h1, _⟩ := h; omega
  | succ n ih =>
    by_cases c : ∃ i, i < n ∧ p i
    · obtain ⟨t, t1, t2, t3⟩ := ih c
      by_cases d : p n ∧ f t ≤ f n
      · refine ⟨n, by omega, d.1, fun i hi hp => ?_⟩
        by_cases e : i = n
        · rw [e]; exact Int.le_refl _
        · exact Int.le_trans (t3 i (by omega) hp) d.2
      · refine ⟨t, by omega, t2, fun i hi hp => ?_⟩
        by_cases e : i = n
        · subst e
          have : ¬ f t ≤ f i := fun z => d ⟨hp, z⟩
          omega
        · exact t3 i (by omega) hp
    · obtain ⟨i, h1, h2⟩ := h
      have : i = n := by
        refine Classical.byContradiction (fun z => c ⟨i, by omega, h2⟩)
      subst this
      refine ⟨i, by omega, h2, fun j hj hp => ?_⟩
      by_cases e : j = i
      · rw [e]; exact Int.le_refl _
      · exact absurd ⟨j, by omega, hp⟩ c
def aC (S : List GR) (B : Nat → Bool) : Prop := ∀ a b, a < S.length → b < S.length → B a = true → B b = true → ¬ led S a b
/-- the widest that ends at s -/
def wdA (S : List GR) (s w : Nat) : Prop := ∃ B : Nat → Bool, (∀ i, B i = true → i < S.length ∧ (i = s ∨ lft S i s)) ∧ aC S B ∧ cB B S.length = w
def upto (S : List GR) (B : Nat → Bool) (g : Int) : Nat → Bool := fun i => B i && decide (gS S (i : Int) ≤ g)
def wdB (S : List GR) (s w : Nat) : Prop := ∀ B : Nat → Bool, aC S B → B s = true → cB (upto S B (gS S (s : Int))) S.length ≤ w
theorem upto_iff {S : List GR} {B : Nat → Bool} {g : Int} {i : Nat} : upto S B g i = true ↔ B i = true ∧ gS S (i : Int) ≤ g := by
  unfold upto
  rw [Bool.and_eq_true, decide_eq_true_eq]
theorem wd_step {S : List GR} (hB : gB S) (hs : gSort S) {W : Nat → Nat} {s v : Nat} (hsl : s < S.length) (hW : ∀ t, t < S.length → gS S (t : Int) < gS S (s : Int) → wdA S t (W t) ∧ wdB S t (W t)) (h1 : ∀ t, t < S.length → lft S t s → W t ≤ v) (h2 : v = 0 ∨ ∃ t, t < S.length ∧ lft S t s ∧ v = W t) : wdA S s (1 + v) ∧ wdB S s (1 + v) := by
  have irr : ∀ a, ¬ led S a a := fun a h => by have := (led_rng hB h).1; omega
  constructor
  · rcases h2 with e | ⟨t, t1, t2, t3⟩
    · refine ⟨fun i => i == s, fun i hi => ?_, fun a b _ _ ha hb => ?_, ?_⟩
      · have : i = s := by simpa using hi
        exact ⟨by omega, Or.inl this⟩
      · have e1 : a = s := by simpa using ha
        have e2 : b = s := by simpa using hb
        rw [e1, e2]
        exact irr s
      · rw [cB_add (C := fun _ => false) S.length hsl (by simp) rfl (fun i _ hn => by simp [hn]), cB_0 _ (fun _ _ => rfl)]
        omega
    · obtain ⟨⟨B, b1, b2, b3⟩, -⟩ := hW t t1 t2.1
      have hl : ∀ i, B i = true → lft S i s := fun i hi => by
        rcases (b1 i hi).2 with e | e
        · rw [e]; exact t2
        · exact lft_tr hB hs t1 e t2
      have hns : B s = false := by
        cases c : B s with
        | false => rfl
        | true =>
          have := (hl s c).1
          omega
      refine ⟨fun i => B i || i == s, fun i hi => ?_, fun a b ha' hb' ha hb => ?_, ?_⟩
      · rcases Bool.or_eq_true_iff.mp hi with e | e
        · exact ⟨(b1 i e).1, Or.inr (hl i e)⟩
        · have : i = s := by simpa using e
          exact ⟨by omega, Or.inl this⟩
      · rcases Bool.or_eq_true_iff.mp ha with e | e <;> rcases Bool.or_eq_true_iff.mp hb with f | f
        · exact b2 a b ha' hb' e f
        · have : b = s := by simpa using f
          rw [this]
          exact (hl a e).2.2
        · have : a = s := by simpa using e
          rw [this]
          exact (hl b f).2.1
        · have e1 : a = s := by simpa using e
          have e2 : b = s := by simpa using f
          rw [e1, e2]
          exact irr s
      · rw [cB_add (C := B) S.length hsl (by simp) hns (fun i _ hn => by simp [hn])]
        omega
  · intro B hA hBs
    have same : ∀ i, i < S.length → B i = true → gS S (i : Int) = gS S (s : Int) → i = s := fun i hi hb hg => by
      rcases Nat.lt_trichotomy i s with e | e | e
      · exact absurd (led_near hB hs e hsl (by unfold adjg; omega)) (hA i s hi hsl hb hBs)
      · exact e
      · exact absurd (led_near hB hs e hi (by unfold adjg; omega)) (hA s i hsl hi hBs hb)
    have inc : ∀ i, i < S.length → B i = true → gS S (i : Int) < gS S (s : Int) → lft S i s := fun i hi hb hg => ⟨hg, hA s i hsl hi hBs hb, hA i s hi hsl hb hBs⟩
    rw [cB_add (C := fun i => B i && decide (gS S (i : Int) < gS S (s : Int))) S.length hsl (upto_iff.mpr ⟨hBs, Int.le_refl _⟩) (by simp) (fun i hi hn => by
      cases c : B i with
      | false => simp [upto, c]
      | true =>
        have : gS S (i : Int) ≠ gS S (s : Int) := fun z => hn (same i hi c z)
        simp only [upto, c, Bool.true_and]
        congr 1
        rw [eq_iff_iff]
        omega)]
    by_cases c : ∃ i, i < S.length ∧ (B i = true ∧ gS S (i : Int) < gS S (s : Int))
    · obtain ⟨t, t1, t2, t3⟩ := ex_max (fun i => gS S (i : Int)) (fun i => B i = true ∧ gS S (i : Int) < gS S (s : Int)) S.length c
      have q1 := (hW t t1 t2.2).2 B hA t2.1
      have q2 := h1 t t1 (inc t t1 t2.1 t2.2)
      have q3 : cB (fun i => B i && decide (gS S (i : Int) < gS S (s : Int))) S.length ≤ cB (upto S B (gS S (t : Int))) S.length := cB_mono _ (fun i hi hb => by
        rw [Bool.and_eq_true, decide_eq_true_eq] at hb
        exact upto_iff.mpr ⟨hb.1, t3 i hi hb⟩)
      omega
    · rw [cB_0 _ (fun i hi => by
        cases e : (B i && decide (gS S (i : Int) < gS S (s : Int))) with
        | false => rfl
        | true =>
          rw [Bool.and_eq_true, decide_eq_true_eq] at e
          exact absurd ⟨i, hi, e⟩ c)]
      omega
/-- the size of the largest set none of whom is ahead of another -/
def wdS (S : List GR) (w : Nat) : Prop := (∃ B, aC S B ∧ cB B S.length = w) ∧ ∀ B, aC S B → cB B S.length ≤ w
theorem wd_end {S : List GR} {W : Nat → Nat} {w : Nat} (hW : ∀ t, t < S.length → wdA S t (W t) ∧ wdB S t (W t)) (h1 : ∀ t, t < S.length → W t ≤ w) (h2 : w = 0 ∨ ∃ t, t < S.length ∧ w = W t) : wdS S w := by
  constructor
  · rcases h2 with e | ⟨t, t1, t2⟩
    · exact ⟨fun _ => false, fun a b _ _ ha => (by cases ha), by rw [cB_0 _ (fun _ _ => rfl), e]⟩
    · obtain ⟨⟨B, b1, b2, b3⟩, -⟩ := hW t t1
      exact ⟨B, b2, by rw [b3, t2]⟩
  · intro B hA
    by_cases c : ∃ i, i < S.length ∧ B i = true
    · obtain ⟨t, t1, t2, t3⟩ := ex_max (fun i => gS S (i : Int)) (fun i => B i = true) S.length c
      have q1 := (hW t t1).2 B hA t2
      have q2 := h1 t t1
      have q3 : cB B S.length ≤ cB (upto S B (gS S (t : Int))) S.length := cB_mono _ (fun i hi hb => upto_iff.mpr ⟨hb, t3 i hi hb⟩)
      omega
    · rw [cB_0 _ (fun i hi => by
        cases e : B i with
        | false => rfl
        | true => exact absurd ⟨i, hi, e⟩ c)]
      omega

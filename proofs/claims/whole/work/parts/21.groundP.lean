-- what is ahead of what
def adjg (a b : Int) : Prop := -1 ≤ a - b ∧ a - b ≤ 1
def gB (S : List GR) : Prop := ∀ (i : Nat) (x : GR), S[i]? = some x → ∃ m : Nat, x.2.2.2.2 = m ∧ m < 2 ^ i ∧ ∀ j, m.testBit j = true ↔ ∃ (b : Nat) (y : GR), b < i ∧ S[b]? = some y ∧ y.1 < x.1 ∧ adjg y.2.1 x.2.1 ∧ (j = b ∨ y.2.2.2.2.toNat.testBit j = true)
theorem gF_bits {S : List GR} (hB : gB S) (hS : S.length ≤ 48) (r g : Int) (n : Nat) (hn : n ≤ S.length) : ∃ m : Nat, (gF S r g n).2 = m ∧ m < 2 ^ n ∧ ∀ j, m.testBit j = true ↔ ∃ (b : Nat) (y : GR), b < n ∧ S[b]? = some y ∧ y.1 < r ∧ adjg y.2.1 g ∧ (j = b ∨ y.2.2.2.2.toNat.testBit j = true) := by
  induction n with
  | zero => exact ⟨0, rfl, by decide, fun j => ⟨fun h => by simp at h, fun ⟨b, y, h, _⟩ => by omega⟩⟩
  | succ n ih =>
    obtain ⟨m, m1, m2, m3⟩ := ih (by omega)
    have hnl : n < S.length := by omega
    obtain ⟨x, hx⟩ : ∃ x, S[n]? = some x := ⟨S[n]'hnl, List.getElem?_eq_getElem hnl⟩
    have e : gF S r g (n + 1) = if x.1 < r ∧ -1 ≤ x.2.1 - g ∧ x.2.1 - g ≤ 1 then (max (gF S r g n).1 (x.2.2.2.1 + 1), lro (gF S r g n).2 (lro x.2.2.2.2 (lsh 1 n))) else gF S r g n := by
      conv => lhs; unfold gF
      rw [hx]
    rw [e]
    have p1 : (2 : Nat) ^ n < 2 ^ (n + 1) := Nat.pow_lt_pow_right (by decide) (by omega)
    by_cases c : x.1 < r ∧ -1 ≤ x.2.1 - g ∧ x.2.1 - g ≤ 1
    · rw [if_pos c]
      obtain ⟨q, q1, q2, q3⟩ := hB n x hx
      have p2 : (2 : Nat) ^ (n + 1) ≤ 2 ^ 49 := Nat.pow_le_pow_right (by decide) (by omega)
      have p3 : (2 : Nat) ^ 49 < 2 ^ 63 := by decide
      have hq : q ||| 2 ^ n < 2 ^ (n + 1) := Nat.or_lt_two_pow (by omega) p1
      have e1 : lro x.2.2.2.2 (lsh 1 n) = ((q ||| 2 ^ n : Nat) : Int) := by
        rw [q1, lsh1_ok (by omega), lro_ok (by omega) (by omega)]
      refine ⟨m ||| (q ||| 2 ^ n), ?_, Nat.or_lt_two_pow (by omega) hq, fun j => ?_⟩
      · show lro (gF S r g n).2 (lro x.2.2.2.2 (lsh 1 n)) = _
        rw [e1, m1, lro_ok (by omega) (by omega)]
      · rw [Nat.testBit_or, Nat.testBit_or, Bool.or_eq_true, Bool.or_eq_true, m3 j, Nat.testBit_two_pow]
        constructor
        · intro h
          rcases h with ⟨b, y, h1, h2, h3⟩ | h | h
          · exact ⟨b, y, by omega, h2, h3⟩
          · exact ⟨n, x, by omega, hx, c.1, c.2, Or.inr (by rw [q1]; exact h)⟩
          · exact ⟨n, x, by omega, hx, c.1, c.2, Or.inl (by simpa using (decide_eq_true_eq.mp h).symm)⟩
        · intro ⟨b, y, h1, h2, h3, h4, h5⟩
          by_cases cb : b = n
          · subst cb
            rw [hx] at h2
            cases h2
            rcases h5 with h5 | h5
            · exact Or.inr (Or.inr (by rw [h5]; simp))
            · rw [q1] at h5
              exact Or.inr (Or.inl h5)
          · exact Or.inl ⟨b, y, by omega, h2, h3, h4, h5⟩
    · rw [if_neg c]
      refine ⟨m, m1, by omega, fun j => ?_⟩
      rw [m3 j]
      constructor
      · intro ⟨b, y, h1, h2⟩
        exact ⟨b, y, by omega, h2⟩
      · intro ⟨b, y, h1, h2, h3, h4, h5⟩
        by_cases cb : b = n
        · subst cb
          rw [hx] at h2
          cases h2
          exact absurd ⟨h3, h4⟩ c
        · exact ⟨b, y, by omega, h2, h3, h4, h5⟩
theorem gNew_B {S : List GR} (hB : gB S) (hS : S.length ≤ 48) (r g k : Int) : gB (gNew S r g k) := by
  have pre : ∀ (b : Nat) (y : GR), b < S.length → ((gNew S r g k)[b]? = some y ↔ S[b]? = some y) := by
    intro b y hb
    unfold gNew
    rw [List.getElem?_append_left hb]
  intro i x hx
  rcases gNew_at S r g k hx with ⟨h1, h2⟩ | ⟨h1, h2⟩
  · obtain ⟨m, m1, m2, m3⟩ := hB i x h2
    refine ⟨m, m1, m2, fun j => ?_⟩
    rw [m3 j]
    constructor
    · intro ⟨b, y, q1, q2, q3⟩
      exact ⟨b, y, q1, (pre b y (by omega)).mpr q2, q3⟩
    · intro ⟨b, y, q1, q2, q3⟩
      exact ⟨b, y, q1, (pre b y (by omega)).mp q2, q3⟩
  · obtain ⟨m, m1, m2, m3⟩ := gF_bits hB hS r g S.length (Nat.le_refl _)
    rw [h2, h1]
    refine ⟨m, m1, m2, fun j => ?_⟩
    rw [m3 j]
    constructor
    · intro ⟨b, y, q1, q2, q3⟩
      exact ⟨b, y, q1, (pre b y (by omega)).mpr q2, q3⟩
    · intro ⟨b, y, q1, q2, q3⟩
      exact ⟨b, y, q1, (pre b y (by omega)).mp q2, q3⟩
def gSort (S : List GR) : Prop := ∀ (a b : Nat) (x y : GR), a < b → S[a]? = some x → S[b]? = some y → x.1 < y.1 ∨ (x.1 = y.1 ∧ x.2.1 + 2 ≤ y.2.1)
theorem gRow_P {N : Int → Int} {S : List GR} {r : Nat} (hN : heldOk N) (hS : gOk S) (hl : S.length ≤ 4 * r) (hB : gB S) (hs : gSort S) (hlt : ∀ (i : Nat) (x : GR), S[i]? = some x → x.1 < r) (hr : r < 12) (n : Nat) (hn : n ≤ 7) :
    gB (gRow N S r n) ∧ gSort (gRow N S r n) ∧ (∀ (i : Nat) (x : GR), (gRow N S r n)[i]? = some x → x.1 < r ∨ (x.1 = r ∧ x.2.1 < n ∧ 0 ≤ N (2 + 7 * r + x.2.1))) := by
  induction n with
  | zero => exact ⟨hB, hs, fun i x hx => Or.inl (hlt i x hx)⟩
  | succ n ih =>
    obtain ⟨i1, i2, i3⟩ := ih (by omega)
    obtain ⟨j1, j2, _⟩ := gRow_ok hN hS hr n (by omega)
    unfold gRow
    by_cases c : 0 ≤ N (2 + 7 * r + n)
    · rw [if_pos c]
      refine ⟨gNew_B i1 (by omega) _ _ _, fun a b x y hab hx hy => ?_, fun i x hx => ?_⟩
      · rcases gNew_at _ _ _ _ hx with ⟨h1, h2⟩ | ⟨h1, h2⟩
        · rcases gNew_at _ _ _ _ hy with ⟨h3, h4⟩ | ⟨h3, h4⟩
          · exact i2 a b x y hab h2 h4
          · rw [h4]
            rcases i3 a x h2 with e | ⟨e1, e2, e3⟩
            · exact Or.inl e
            · refine Or.inr ⟨e1, ?_⟩
              show x.2.1 + 2 ≤ (n : Int)
              by_cases c2 : x.2.1 + 1 = n
              · have hx0 := (j1 a x h2).2.2.1
                have := hN.2 r x.2.1 (by omega) (by omega) hx0 (by omega) e3
                rw [c2] at this
                omega
              · omega
        · rcases gNew_at _ _ _ _ hy with ⟨h3, h4⟩ | ⟨h3, h4⟩ <;> omega
      · rcases gNew_at _ _ _ _ hx with ⟨h1, h2⟩ | ⟨h1, h2⟩
        · rcases i3 i x h2 with e | ⟨e1, e2, e3⟩
          · exact Or.inl e
          · exact Or.inr ⟨e1, by omega, e3⟩
        · rw [h2]
          exact Or.inr ⟨rfl, by show (n : Int) < _; omega, c⟩
    · rw [if_neg c]
      refine ⟨i1, i2, fun i x hx => ?_⟩
      rcases i3 i x hx with e | ⟨e1, e2, e3⟩
      · exact Or.inl e
      · exact Or.inr ⟨e1, by omega, e3⟩
theorem gAll_P {N : Int → Int} {gaps : Nat} (hN : heldOk N) (hg : gaps ≤ 7) (n : Nat) (hn : n ≤ 12) : gB (gAll N gaps n) ∧ gSort (gAll N gaps n) ∧ ∀ (i : Nat) (x : GR), (gAll N gaps n)[i]? = some x → x.1 < n := by
  induction n with
  | zero => exact ⟨fun i x hx => by simp [gAll] at hx, fun a b x y _ hx => by simp [gAll] at hx, fun i x hx => by simp [gAll] at hx⟩
  | succ n ih =>
    obtain ⟨i1, i2, i3⟩ := ih (by omega)
    obtain ⟨j1, j2⟩ := gAll_ok hN hg n (by omega)
    obtain ⟨k1, k2, k3⟩ := gRow_P hN j1 j2 i1 i2 i3 (by omega : n < 12) gaps hg
    refine ⟨k1, k2, fun i x hx => ?_⟩
    rcases k3 i x hx with e | ⟨e, _⟩ <;> omega
/-- the stitches of what is held -/
def stS (N : Int → Int) : List GR := gAll N (N 0 - 1).toNat 12
def gS (S : List GR) (s : Int) : Int := match S[s.toNat]? with
  | none => 0
  | some x => x.2.1
def kS (S : List GR) (s : Int) : Int := match S[s.toNat]? with
  | none => 0
  | some x => x.2.2.1
def rS (S : List GR) (s : Int) : Int := match S[s.toNat]? with
  | none => 0
  | some x => x.1
def bS (S : List GR) (s : Int) : Nat := match S[s.toNat]? with
  | none => 0
  | some x => x.2.2.2.2.toNat
theorem awQ_congr {N gp kd gp' kd' : Int → Int} {wk : Nat → Int} (n : Nat) (h : ∀ i, i < n → gp (wk i) = gp' (wk i) ∧ kd (wk i) = kd' (wk i)) : awQ N gp kd wk n = awQ N gp' kd' wk n := by
  induction n with
  | zero => rfl
  | succ n ih =>
    unfold awQ
    rw [ih (fun i hi => h i (by omega)), (h n (by omega)).1, (h n (by omega)).2]
/-- worked so, each is below what touches it later -/
def ordOk (S : List GR) (wk : Nat → Int) (n : Nat) : Prop := ∀ j k, j < k → k < n → adjg (gS S (wk j)) (gS S (wk k)) → rS S (wk j) < rS S (wk k)
theorem hgt_Q {N : Int → Int} {S : List GR} {wk : Nat → Int} (hst : stOk N (gS S) (kS S) S.length) (n : Nat) (hw : ∀ i, i < n → 0 ≤ wk i ∧ wk i < S.length) (hr : ∀ i, i < n → 0 ≤ rS S (wk i)) (ho : ordOk S wk n) (q : Int) :
    hgt (awQ N (gS S) (kS S) wk n) q ≤ 0 ∨ ∃ k, k < n ∧ 2 * gS S (wk k) ≤ q ∧ q ≤ 2 * gS S (wk k) + 2 ∧ hgt (awQ N (gS S) (kS S) wk n) q ≤ 8 * (rS S (wk k) + 1) := by
  induction n generalizing q with
  | zero => exact Or.inl (Int.le_refl _)
  | succ n ih =>
    have ih' := ih (fun i hi => hw i (by omega)) (fun i hi => hr i (by omega)) (fun j k a b => ho j k a (by omega))
    have h1 := hw n (by omega)
    have h2 := hst.2.2.1 _ h1.1 h1.2
    have hG := awQ_g hst n (fun i hi => hw i (by omega))
    have hr0 := hr n (by omega)
    obtain ⟨x1, x2⟩ := hgt_S (N := N) (k := kS S (wk n)) (g := gS S (wk n)) (b := wk n) (B := 8 * rS S (wk n)) h2.2.2.1 h2.2.2.2 hG (hst.2.2.2 _ h2.1 h2.2.1) (fun q a b => by
      rcases ih' q with e | ⟨k, k1, k2, k3, k4⟩
      · omega
      · have := ho k n k1 (by omega) (by unfold adjg; omega)
        omega)
    show hgt (awS N (awQ N (gS S) (kS S) wk n) (kS S (wk n)) (gS S (wk n)) (wk n)) q ≤ 0 ∨ ∃ k, k < n + 1 ∧ _ ∧ _ ∧ hgt (awS N (awQ N (gS S) (kS S) wk n) (kS S (wk n)) (gS S (wk n)) (wk n)) q ≤ _
    by_cases c : 2 * gS S (wk n) ≤ q ∧ q ≤ 2 * gS S (wk n) + 2
    · have := x1 q (by omega) (by omega)
      exact Or.inr ⟨n, by omega, c.1, c.2, by omega⟩
    · rw [x2 q (by omega)]
      rcases ih' q with e | ⟨k, k1, k2, k3, k4⟩
      · exact Or.inl e
      · exact Or.inr ⟨k, by omega, k2, k3, k4⟩
/-- about a stitch that touches only lower ones the heap isn't too high -/
theorem hgt_near {N : Int → Int} {S : List GR} {wk : Nat → Int} (hst : stOk N (gS S) (kS S) S.length) (n : Nat) (hw : ∀ i, i < n → 0 ≤ wk i ∧ wk i < S.length) (hr : ∀ i, i < n → 0 ≤ rS S (wk i)) (ho : ordOk S wk n) {s : Int} (hrs : 0 ≤ rS S s) (hs : ∀ j, j < n → adjg (gS S (wk j)) (gS S s) → rS S (wk j) < rS S s) (q : Int) (h1 : 2 * gS S s - 1 ≤ q) (h2 : q ≤ 2 * gS S s + 3) : hgt (awQ N (gS S) (kS S) wk n) q ≤ 8 * rS S s := by
  rcases hgt_Q hst n hw hr ho q with e | ⟨k, k1, k2, k3, k4⟩
  · omega
  · have := hs k k1 (by unfold adjg; omega)
    omega

-- THE REFERENCE's takes: who is taken by whom
def tOk (S : List GR) (t : Int → Int) : Prop := ∀ a : Nat, a < S.length → t a = -1 ∨ ∃ x : Nat, t a = x ∧ x < S.length ∧ led S a x
def tInj (S : List GR) (t : Int → Int) : Prop := ∀ a b : Nat, a < S.length → b < S.length → t a = t b → 0 ≤ t a → a = b
def clo (S : List GR) (t : Int → Int) (Z : Nat → Bool) : Prop := ∀ a : Nat, a < S.length → Z a = true → 0 ≤ t a ∧ ∀ b, led S b (t a).toNat → Z b = true
def SU (S : List GR) (Z : Nat → Bool) (t t' : Int → Int) (m x : Nat) : Prop :=
  tOk S t' ∧ (∀ a : Nat, a < S.length → m.testBit a = true → t' a = t a) ∧ (∃ a' : Nat, a' < S.length ∧ m.testBit a' = false ∧ t' a' = x ∧ ∀ b : Nat, b < S.length → m.testBit b = false → t' b = x → b = a') ∧ (∀ b b' : Nat, b < S.length → b' < S.length → b ≠ b' → t' b = t' b' → 0 ≤ t' b → t' b = x) ∧ (∀ y : Int, 0 ≤ y → (∃ b : Nat, b < S.length ∧ t b = y) → ∃ b : Nat, b < S.length ∧ t' b = y) ∧ (∀ b : Nat, b < S.length → 0 ≤ t' b → t' b = x ∨ ∃ b0 : Nat, b0 < S.length ∧ t b0 = t' b) ∧ (∀ a : Nat, a < S.length → Z a = true → t' a = t a) ∧ ∃ b : Nat, b < S.length ∧ led S b x ∧ Z b = false
theorem SU_base {S : List GR} {Z : Nat → Bool} {t : Int → Int} {m x j : Nat} (h1 : tOk S t) (h2 : tInj S t) (h3 : clo S t Z) (hx : x < S.length) (hp : ∀ a : Nat, a < S.length → t a = x → m.testBit a = true) (hj : j < S.length) (hm : m.testBit j = false) (ht : t j < 0) (hled : led S j x) : SU S Z t (fun i => if i = (j : Int) then (x : Int) else t i) m x := by
  have e1 : (fun i => if i = (j : Int) then (x : Int) else t i) (j : Int) = x := by simp
  have e2 : ∀ b : Nat, b ≠ j → (fun i => if i = (j : Int) then (x : Int) else t i) (b : Int) = t b := fun b hb => by
    have : ¬ (b : Int) = (j : Int) := by omega
    simp [this]
  generalize (fun i => if i = (j : Int) then (x : Int) else t i) = T at *
  have hZ : Z j = false := by
    cases c : Z j with
    | false => rfl
    | true => have := (h3 j hj c).1; omega
  refine ⟨fun a ha => ?_, fun a ha hma => ?_, ⟨j, hj, hm, e1, fun b hb hmb hTb => ?_⟩, fun b b' hb hb' hne he h0 => ?_, fun y hy ⟨b, b1, b2⟩ => ?_, fun b hb h0 => ?_, fun a ha hza => ?_, ⟨j, hj, hled, hZ⟩⟩
  · by_cases c : a = j
    · rw [c]; exact Or.inr ⟨x, e1, hx, hled⟩
    · rw [e2 a c]; exact h1 a ha
  · exact e2 a (fun z => by rw [z, hm] at hma; cases hma)
  · refine Classical.byContradiction (fun c => ?_)
    rw [e2 b c] at hTb
    have := hp b hb hTb
    rw [hmb] at this
    cases this
  · by_cases c : b = j
    · rw [c]; exact e1
    · by_cases c' : b' = j
      · rw [he, c']; exact e1
      · rw [e2 b c, e2 b' c'] at he
        rw [e2 b c] at h0
        exact absurd (h2 b b' hb hb' he h0) hne
  · refine ⟨b, b1, ?_⟩
    rw [e2 b (fun z => by rw [z] at b2; omega)]
    exact b2
  · by_cases c : b = j
    · rw [c]; exact Or.inl e1
    · exact Or.inr ⟨b, hb, (e2 b c).symm⟩
  · exact e2 a (fun z => by rw [z, hZ] at hza; cases hza)
theorem SU_step {S : List GR} {Z : Nat → Bool} {t t' : Int → Int} {m m1 x y j : Nat} (h2 : tInj S t) (h3 : clo S t Z) (hx : x < S.length) (hp : ∀ a : Nat, a < S.length → t a = x → m.testBit a = true) (hj : j < S.length) (hm : m.testBit j = false) (hmm : ∀ a, m.testBit a = true → m1.testBit a = true) (hm1 : m1.testBit j = true) (ht : t j = y) (hled : led S j x) (hC : SU S Z t t' m1 y) : SU S Z t (fun i => if i = (j : Int) then (x : Int) else t' i) m x := by
  obtain ⟨C0, C1, ⟨a', a1, a2, a3, a4⟩, C3, C5, C6, C7, b8, b8l, b8d, b8z⟩ := hC
  have e1 : (fun i => if i = (j : Int) then (x : Int) else t' i) (j : Int) = x := by simp
  have e2 : ∀ b : Nat, b ≠ j → (fun i => if i = (j : Int) then (x : Int) else t' i) (b : Int) = t' b := fun b hb => by
    have : ¬ (b : Int) = (j : Int) := by omega
    simp [this]
  generalize (fun i => if i = (j : Int) then (x : Int) else t' i) = T at *
  have tj : t' j = y := by rw [C1 j hj hm1, ht]
  have xy : ¬ (x : Int) = y := fun z => by
    have := hp j hj (by rw [ht, z])
    rw [hm] at this
    cases this
  have hZ : Z j = false := by
    cases c : Z j with
    | false => rfl
    | true =>
      have := (h3 j hj c).2 b8 (by rw [ht]; exact b8d)
      rw [b8z] at this
      cases this
  have tf : ∀ q : Bool, ¬ q = true → q = false := fun q h => by cases q <;> simp_all
  refine ⟨fun a ha => ?_, fun a ha hma => ?_, ⟨j, hj, hm, e1, fun b hb hmb hTb => ?_⟩, fun b b' hb hb' hne he h0 => ?_, fun w hw hex => ?_, fun b hb h0 => ?_, fun a ha hza => ?_, ⟨j, hj, hled, hZ⟩⟩
  · by_cases c : a = j
    · rw [c]; exact Or.inr ⟨x, e1, hx, hled⟩
    · rw [e2 a c]; exact C0 a ha
  · rw [e2 a (fun z => by rw [z, hm] at hma; cases hma)]
    exact C1 a ha (hmm a hma)
  · refine Classical.byContradiction (fun c => ?_)
    rw [e2 b c] at hTb
    by_cases d : m1.testBit b = true
    · rw [C1 b hb d] at hTb
      have := hp b hb hTb
      rw [hmb] at this
      cases this
    · rcases C6 b hb (by omega) with q | ⟨b0, q1, q2⟩
      · exact xy (by rw [← hTb, q])
      · rw [hTb] at q2
        have m0 := hmm b0 (hp b0 q1 q2)
        have t0 : t' b0 = x := by rw [C1 b0 q1 m0, q2]
        have := C3 b0 b q1 hb (fun z => d (by rw [← z]; exact m0)) (by rw [t0, hTb]) (by omega)
        exact xy (by rw [← t0, this])
  · by_cases c : b = j
    · rw [c]; exact e1
    · by_cases c' : b' = j
      · rw [he, c']; exact e1
      · exfalso
        rw [e2 b c, e2 b' c'] at he
        rw [e2 b c] at h0
        have q := C3 b b' hb hb' hne he h0
        have u : ∀ d : Nat, d < S.length → d ≠ j → t' d = y → d = a' := fun d hd hdj hdy => by
          by_cases w : m1.testBit d = true
          · rw [C1 d hd w] at hdy
            exact absurd (h2 d j hd hj (by rw [hdy, ht]) (by omega)) hdj
          · exact a4 d hd (tf _ w) hdy
        exact hne ((u b hb c q).trans (u b' hb' c' (by rw [← he, q])).symm)
  · obtain ⟨b, b1, b2⟩ := C5 w hw hex
    by_cases c : b = j
    · have : a' ≠ j := fun z => by rw [z, hm1] at a2; cases a2
      exact ⟨a', a1, by rw [e2 a' this, a3, ← tj, ← b2, c]⟩
    · exact ⟨b, b1, by rw [e2 b c, b2]⟩
  · by_cases c : b = j
    · rw [c]; exact Or.inl e1
    · rw [e2 b c] at h0 ⊢
      rcases C6 b hb h0 with q | q
      · exact Or.inr ⟨j, hj, by rw [ht, q]⟩
      · exact Or.inr q
  · rw [e2 a (fun z => by rw [z, hZ] at hza; cases hza)]
    exact C7 a ha hza
theorem or_bit (m j a : Nat) : (m ||| 2 ^ j).testBit a = true ↔ m.testBit a = true ∨ a = j := by
  rw [Nat.testBit_or, Bool.or_eq_true, Nat.testBit_two_pow, decide_eq_true_eq]
  constructor
  · intro h
    rcases h with h | h
    · exact Or.inl h
    · exact Or.inr h.symm
  · intro h
    rcases h with h | h
    · exact Or.inl h
    · exact Or.inr h.symm
/-- how many haven't been seen -/
def uns (m n : Nat) : Nat := cB (fun a => !m.testBit a) n
theorem uns_lt {m m' j n : Nat} (hj : j < n) (hm : m.testBit j = false) (h : ∀ a, m.testBit a = true → m'.testBit a = true) (h' : m'.testBit j = true) : uns m' n < uns m n := by
  unfold uns
  have e := cB_add (B := fun a => !m.testBit a) (C := fun a => !m.testBit a && !(a == j)) (s := j) n hj (by simp [hm]) (by simp) (fun i _ hn => by simp [hn])
  have f : cB (fun a => !m'.testBit a) n ≤ cB (fun a => !m.testBit a && !(a == j)) n := cB_mono n (fun i hi hb => by
    have q : m'.testBit i = false := by simpa using hb
    have q1 : m.testBit i = false := by
      cases c : m.testBit i with
      | false => rfl
      | true => rw [h i c] at q; cases q
    have q2 : i ≠ j := fun z => by rw [z, h'] at q; cases q
    simp [q1, q2])
  omega
abbrev tkK : List Nat := [21]
abbrev tkJ : List Int := [26]
theorem GM_tk {τ τ' : St} {S : List GR} (h : GM τ S) (f : frm tkK tkJ τ τ') : GM τ' S := by
  unfold GM
  rw [f.2 5 (by decide), f.1 5 (by decide) (by decide), f.1 6 (by decide) (by decide), f.1 7 (by decide) (by decide), f.1 8 (by decide) (by decide), f.1 9 (by decide) (by decide)]
  exact h
/-- a call that fails has seen all that it could reach -/
def FA (S : List GR) (t : Int → Int) (m m' x : Nat) : Prop := (∀ a, m.testBit a = true → m'.testBit a = true) ∧ (∀ a, led S a x → m'.testBit a = true) ∧ ∀ a, m'.testBit a = true → m.testBit a = false → a < S.length ∧ 0 ≤ t a ∧ ∀ b, led S b (t a).toNat → m'.testBit b = true
theorem Mtakes_ok {S : List GR} (hB : gB S) (hl : S.length ≤ 48) (Z : Nat → Bool) (n : Nat) : ∀ {τ : St} {x m : Nat} {Q : Int → St → Prop}, GM τ S → x < S.length → m < 2 ^ 48 → τ 0 26 = m → uns m S.length < n → tOk S (τ 21) → tInj S (τ 21) → clo S (τ 21) Z → (∀ a : Nat, a < S.length → τ 21 a = x → m.testBit a = true) →
    (∀ (τ' : St) (m' : Nat), τ' 0 26 = m' → m' < 2 ^ 48 → frm tkK tkJ τ τ' → τ' 21 = τ 21 → FA S (τ 21) m m' x → Q 0 τ') →
    (∀ (τ' : St) (m' : Nat), τ' 0 26 = m' → m' < 2 ^ 48 → frm tkK tkJ τ τ' → SU S Z (τ 21) (τ' 21) m x → Q 1 τ') → V_M_takes n τ x Q := by
  have p := p48
  induction n with
  | zero => intro τ x m Q _ _ _ _ hu; omega
  | succ n ih =>
    intro τ x m Q hG hx hm hs hu t1 t2 t3 t4 kF kS
    show B_M_takes (V_M_takes n) τ x Q
    unfold B_M_takes
    refine wl1 (fun i u => ∃ j mj : Nat, j ≤ S.length ∧ i = j ∧ u 0 26 = mj ∧ mj < 2 ^ 48 ∧ frm tkK tkJ τ u ∧ u 21 = τ 21 ∧ (∀ a, m.testBit a = true → mj.testBit a = true) ∧ (∀ a, a < j → led S a x → mj.testBit a = true) ∧ (∀ a, mj.testBit a = true → m.testBit a = false → a < S.length ∧ 0 ≤ τ 21 a ∧ ∀ b, led S b (τ 21 a).toNat → mj.testBit b = true)) (fun i _ => (S.length - i).toNat) ⟨0, m, by omega, rfl, hs, hm, frm.rf, rfl, fun _ h => h, fun a ha => by omega, fun a h h' => by rw [h] at h'; cases h'⟩ ?_
    intro bk i u hI hb
    obtain ⟨j, mj, hj, rfl, u1, u2, u3, u4, u5, u6, u7⟩ := hI
    have uG := GM_tk hG u3
    rw [uG.1, i32_id (x := (j : Int)) (by omega) (by omega), i32_id (x := (S.length : Int)) (by omega) (by omega), i32_id (x := (x : Int)) (by omega) (by omega)]
    refine ⟨fun hc => kF u mj u1 u2 u3 u4 ⟨u5, fun a ha => u6 a (by have := led_rng hB ha; omega) ha, u7⟩, fun hc => ⟨⟨by omega, by omega⟩, ?_⟩⟩
    obtain ⟨g1, g2⟩ := GM_b uG hB hl (a := (x : Int)) (by omega) (by omega)
    rw [g1, u1, bit01_64 g2 (by omega) (by omega), bit01_64 u2 (by omega) (by omega), show ((j : Int)).toNat = j by omega]
    cases hd : (bS S (x : Int)).testBit j with
    | false =>
      refine ⟨fun _ => hb _ _ ⟨j + 1, mj, by omega, by omega, u1, u2, u3, u4, u5, fun a ha hla => ?_, u7⟩ (by omega), fun h => absurd rfl h⟩
      by_cases c : a = j
      · rw [c] at hla; unfold led at hla; rw [hd] at hla; cases hla
      · exact u6 a (by omega) hla
    | true =>
      refine ⟨fun h => absurd h (by decide), fun _ => ?_⟩
      have hled : led S j x := hd
      cases he : mj.testBit j with
      | true =>
        refine ⟨fun h => absurd rfl h, fun _ => hb _ _ ⟨j + 1, mj, by omega, by omega, u1, u2, u3, u4, u5, fun a ha hla => ?_, u7⟩ (by omega)⟩
        by_cases c : a = j
        · rw [c]; exact he
        · exact u6 a (by omega) hla
      | false =>
        refine ⟨fun _ v hv => ⟨⟨by omega, by omega⟩, ?_⟩, fun h => absurd h (by decide)⟩
        have hp2 : (2 : Nat) ^ j < 2 ^ 48 := Nat.pow_lt_pow_right (by decide) (by omega)
        rw [lsh1_ok (by omega), lro_ok (by omega) (by omega)] at hv
        have v1 : v 0 26 = ((mj ||| 2 ^ j : Nat) : Int) := by rw [hv, ss_at]
        have v2 : mj ||| 2 ^ j < 2 ^ 48 := Nat.or_lt_two_pow u2 hp2
        have v3 : frm tkK tkJ τ v := u3.tr (by rw [hv]; exact frm.s0 (by decide))
        have v4 : v 21 = τ 21 := by rw [hv, ss_row _ (by decide), u4]
        have vG := GM_tk hG v3
        have mo : ∀ a, mj.testBit a = true → (mj ||| 2 ^ j).testBit a = true := fun a h => (or_bit _ _ _).mpr (Or.inl h)
        have moj : (mj ||| 2 ^ j).testBit j = true := (or_bit _ _ _).mpr (Or.inr rfl)
        have hmj : m.testBit j = false := by
          cases c : m.testBit j with
          | false => rfl
          | true => rw [u5 j c] at he; cases he
        rw [v4]
        have tr : τ 21 j = -1 ∨ ∃ y : Nat, τ 21 j = y ∧ y < S.length ∧ led S j y := t1 j (by omega)
        refine ⟨fun hn => ⟨⟨by omega, by omega⟩, fun w hw => ?_⟩, fun hn => ⟨⟨by omega, by omega⟩, ?_⟩⟩
        · have tn : τ 21 j < 0 := by
            rcases tr with q | ⟨y, q1, q2, q3⟩
            · omega
            · rw [q1, i32_id (by omega) (by omega)] at hn; omega
          refine kS w _ (by rw [hw, ss_row _ (by decide)]; exact v1) v2 (v3.tr (by rw [hw]; exact frm.sk (by decide) (by decide))) ?_
          rw [hw, ss_self, v4]
          exact SU_base t1 t2 t3 hx t4 (by omega) hmj tn hled
        · obtain ⟨y, q1, q2, q3⟩ : ∃ y : Nat, τ 21 j = y ∧ y < S.length ∧ led S j y := by
            rcases tr with q | q
            · rw [q, k32_m1] at hn; omega
            · exact q
          rw [q1]
          refine ih (m := mj ||| 2 ^ j) vG q2 v2 v1 ?_ (by rw [v4]; exact t1) (by rw [v4]; exact t2) (by rw [v4]; exact t3) (fun a ha hay => ?_) (fun w mw w1 w2 w3 w4 w5 => ⟨fun _ => ?_, fun z => absurd z00 z⟩) (fun w mw w1 w2 w3 w4 => ⟨fun z => absurd z n10, fun _ => ⟨⟨by omega, by omega⟩, fun w' hw' => ?_⟩⟩)
          · have := uns_lt (m := m) (m' := mj ||| 2 ^ j) (j := j) (n := S.length) (by omega) hmj (fun a h => mo a (u5 a h)) moj
            omega
          · rw [v4] at hay
            have : a = j := t2 a j ha (by omega) (by rw [hay, q1]) (by omega)
            rw [this]
            exact moj
          · obtain ⟨f1, f2, f3⟩ := w5
            rw [v4] at f3
            refine hb _ _ ⟨j + 1, mw, by omega, by omega, w1, w2, v3.tr w3, by rw [w4, v4], fun a h => f1 a (mo a (u5 a h)), fun a ha hla => ?_, fun a ha hna => ?_⟩ (by omega)
            · by_cases c : a = j
              · rw [c]; exact f1 j moj
              · exact f1 a (mo a (u6 a (by omega) hla))
            · by_cases c : (mj ||| 2 ^ j).testBit a = true
              · rcases (or_bit _ _ _).mp c with d | d
                · obtain ⟨r1, r2, r3⟩ := u7 a d hna
                  exact ⟨r1, r2, fun b hb' => f1 b (mo b (r3 b hb'))⟩
                · rw [d, q1]
                  exact ⟨by omega, by omega, fun b hb' => f2 b hb'⟩
              · exact f3 a ha (by cases e : (mj ||| 2 ^ j).testBit a <;> simp_all)
          · refine kS w' mw (by rw [hw', ss_row _ (by decide)]; exact w1) w2 ((v3.tr w3).tr (by rw [hw']; exact frm.sk (by decide) (by decide))) ?_
            rw [hw', ss_self]
            rw [v4] at w4
            exact SU_step t2 t3 hx t4 (by omega) hmj (fun a h => mo a (u5 a h)) moj q1 hled w4

-- THE WORK's stitches as bits
def wsN (N : Int → Int) : Nat → Nat
  | 0 => 0
  | n + 1 => wsN N n ||| 2 ^ (N (156 + n)).toNat
def wsI (N : Int → Int) : Nat → Int
  | 0 => 0
  | n + 1 => lro (wsI N n) (lsh 1 (N (156 + n)))
theorem wsI_ok {N : Int → Int} (n : Nat) (h : ∀ k : Nat, k < n → 0 ≤ N (156 + k) ∧ N (156 + k) < 48) : wsI N n = wsN N n ∧ wsN N n < 2 ^ 48 ∧ ∀ i, (wsN N n).testBit i = true ↔ ∃ k : Nat, k < n ∧ N (156 + k) = i := by
  induction n with
  | zero => exact ⟨rfl, Nat.two_pow_pos 48, fun i => ⟨fun h => by simp [wsN] at h, fun ⟨k, hk, _⟩ => by omega⟩⟩
  | succ n ih =>
    obtain ⟨i1, i2, i3⟩ := ih (fun k hk => h k (by omega))
    have hn := h n (by omega)
    obtain ⟨s, hs⟩ : ∃ s : Nat, N (156 + n) = s := ⟨(N (156 + n)).toNat, by omega⟩
    have p : (2 : Nat) ^ s < 2 ^ 48 := Nat.pow_lt_pow_right (by decide) (by omega)
    have p2 : (2 : Nat) ^ 48 < 2 ^ 63 := by decide
    have e : (N (156 + n)).toNat = s := by omega
    refine ⟨?_, ?_, fun i => ?_⟩
    · show lro (wsI N n) (lsh 1 (N (156 + n))) = ((wsN N n ||| 2 ^ (N (156 + n)).toNat : Nat) : Int)
      rw [i1, hs, lsh1_ok (by omega), lro_ok (by omega) (by omega)]
      rfl
    · show wsN N n ||| 2 ^ (N (156 + n)).toNat < _
      rw [e]
      exact Nat.or_lt_two_pow i2 p
    · show (wsN N n ||| 2 ^ (N (156 + n)).toNat).testBit i = true ↔ _
      rw [e, Nat.testBit_or, Bool.or_eq_true, i3 i, Nat.testBit_two_pow]
      constructor
      · intro hh
        rcases hh with ⟨k, h1, h2⟩ | h1
        · exact ⟨k, by omega, h2⟩
        · have := decide_eq_true_eq.mp h1
          exact ⟨n, by omega, by rw [hs]; omega⟩
      · intro ⟨k, h1, h2⟩
        by_cases c : k = n
        · subst c
          exact Or.inr (by rw [hs] at h2; simp; omega)
        · exact Or.inl ⟨k, by omega, h2⟩
def wkOk (N : Int → Int) (S : List GR) : Prop := ∀ k : Nat, (k : Int) < N 1 → 0 ≤ N (156 + k) ∧ N (156 + k) < S.length ∧ (wsN N k).testBit (N (156 + k)).toNat = false ∧ ∀ i, (bS S (N (156 + k))).testBit i = true → (wsN N k).testBit i = true
def planOk (N : Int → Int) : Prop :=
  2 ≤ N 0 ∧ N 0 ≤ 8 ∧ heldOk N ∧ (∀ r g, 0 ≤ r → r < 12 → N 0 - 1 ≤ g → g < 7 → N (2 + 7 * r + g) = -1) ∧ (∀ k, 0 ≤ k → k < 6 → wordOk N k) ∧ (∀ t, 0 ≤ t → t < 16 → 0 ≤ N (140 + t) ∧ N (140 + t) ≤ 9999) ∧ 0 ≤ N 1 ∧ N 1 ≤ (stS N).length ∧ wkOk N (stS N)
def wkA (N : Int → Int) : AW := awQ N (gS (stS N)) (kS (stS N)) (fun i => N (156 + i)) (N 1).toNat
def alA (N : Int → Int) (n : Nat) : AW := awQ N (gS (stS N)) (kS (stS N)) (fun i => i) n
/-- the class's plan at o is N -/
def PR (σ : St) (o : Nat) (N : Int → Int) : Prop :=
  σ o 0 = N 0 ∧ σ o 6 = N 1 ∧ (∀ k, 0 ≤ k → k < 84 → σ (o + 1) k = N (2 + k)) ∧ (∀ k, 0 ≤ k → k < 6 → σ (o + 3) k = N (86 + 9 * k) ∧ ∀ i, 0 ≤ i → i < 8 → σ (o + 2) (k * 8 + i) = N (87 + 9 * k + i)) ∧ (∀ t, 0 ≤ t → t < 16 → σ (o + 4) t = N (140 + t)) ∧ ∀ i, 0 ≤ i → i < 48 → σ (o + 5) i = N (156 + i)
-- ORDERS: how many from a set on
def sumN (f : Nat → Nat) : Nat → Nat
  | 0 => 0
  | n + 1 => sumN f n + f n
def freeB (S : List GR) (D s : Nat) : Bool := !(D.testBit s) && decide (bS S s &&& D = bS S s)
def wyS (S : List GR) : Nat → Nat → Nat
  | 0, _ => 1
  | n + 1, D => sumN (fun s => if freeB S D s then wyS S n (D ||| 2 ^ s) else 0) S.length
def pcS (D : Nat) (n : Nat) : Nat := sumN (fun s => if D.testBit s then 1 else 0) n
def lnS (S : List GR) (s : Nat) : Nat := (gS S s).toNat / 2
def stOf (S : List GR) (st : Nat → Nat) (D : Nat) : Nat := sumN (fun s => if D.testBit s then st (lnS S s) else 0) S.length
/-- of each line the first ones -/
def lpre (S : List GR) (D : Nat) : Prop := D < 2 ^ S.length ∧ ∀ s t, s < t → t < S.length → lnS S s = lnS S t → D.testBit t = true → D.testBit s = true
def WY (σ : St) (S : List GR) : Prop := S.length ≤ 20 ∧ ∃ st : Nat → Nat, (∀ l : Nat, l < 4 → σ 26 l = st l) ∧ ∀ D, lpre S D → stOf S st D < 1296 ∧ σ 24 (stOf S st D) = wyS S (S.length - pcS D S.length) D
-- THE RELATION
def tapeR (σ τ : St) : Prop := σ 53 1 = τ 0 12 ∧ 0 ≤ τ 0 12 ∧ τ 0 12 ≤ 120 ∧ ∀ i, 0 ≤ i → i < τ 0 12 → σ 54 i = τ 10 i ∧ 0 ≤ τ 10 i ∧ τ 10 i ≤ 255
def shR (σ τ : St) : Prop := ∀ i : Nat, i < 4 → σ (57 + 2 * i) 0 = τ 24 i ∧ -1 ≤ τ 24 i ∧ τ 24 i ≤ 3 ∧ (0 ≤ τ 24 i → σ (57 + 2 * i) 1 = τ 25 i ∧ 0 ≤ τ 25 i ∧ τ 25 i ≤ 60 ∧ ∀ k, 0 ≤ k → k < 60 → σ (58 + 2 * i) k = τ 26 (60 * i + k) ∧ i64 (τ 26 (60 * i + k)) = τ 26 (60 * i + k))
def errR (σ τ : St) : Prop := ∀ k, 0 ≤ k → k < 8 → σ 56 k = τ 4 k
def imgR (σ τ : St) : Prop := (σ 0 3 = 0 ∧ τ 0 3 = 0) ∨ (σ 0 3 = 1 ∧ τ 0 3 = 1 ∧ planOk (τ 2) ∧ PR σ 7 (τ 2) ∧ HP σ 13 (hR (wkA (τ 2)).2.2))
def RelA (σ τ : St) : Prop := tapeR σ τ ∧ shR σ τ ∧ errR σ τ ∧ imgR σ τ
def thR (σ : St) (N : Int → Int) : Prop := σ 0 8 = -1 ∨ (0 ≤ σ 0 8 ∧ σ 0 8 ≤ (stS N).length ∧ CW σ 41 (alA N (σ 0 8).toNat))
def wyR (σ : St) (N : Int → Int) : Prop := σ 23 0 = 0 ∨ (σ 23 0 = 1 ∧ WY σ (stS N))
def RelP (σ τ : St) : Prop := planOk (τ 1) ∧ PR σ 1 (τ 1) ∧ GC σ (stS (τ 1)) ∧ GM τ (stS (τ 1)) ∧ CW σ 29 (wkA (τ 1)) ∧ σ 0 9 = wsI (τ 1) (τ 1 1).toNat ∧ thR σ (τ 1) ∧ wyR σ (τ 1)
def Rel (σ τ : St) : Prop := RelA σ τ ∧ RelP σ τ
-- frames
theorem cfr.frm {lo hi : Nat} {K : List Nat} {J : List Int} {σ σ' : St} (h : cfr lo hi σ σ') (h0 : 0 < lo) (hK : ∀ k ∈ List.range (hi + 1), lo ≤ k → k ∈ K) : frm K J σ σ' := by
  refine ⟨fun k _ h2 => h k ?_, fun j _ => by rw [h 0 (Or.inl h0)]⟩
  by_cases c : k < lo
  · exact Or.inl c
  · by_cases c2 : hi < k
    · exact Or.inr c2
    · exact absurd (hK k (List.mem_range.mpr (by omega)) (by omega)) h2
theorem PR.fr {σ σ' : St} {o : Nat} {N : Int → Int} (h : PR σ o N) (e : ∀ k, o ≤ k → k ≤ o + 5 → σ' k = σ k) : PR σ' o N := by
  unfold PR
  rw [e o (by omega) (by omega), e (o + 1) (by omega) (by omega), e (o + 2) (by omega) (by omega), e (o + 3) (by omega) (by omega), e (o + 4) (by omega) (by omega), e (o + 5) (by omega) (by omega)]
  exact h
theorem HP.fe {σ σ' : St} {h : Nat} {R : List HI} (hp : HP σ h R) (e : ∀ k, h ≤ k → k ≤ h + 2 → σ' k = σ k) : HP σ' h R := by
  unfold HP
  rw [e h (by omega) (by omega), e (h + 1) (by omega) (by omega), e (h + 2) (by omega) (by omega)]
  exact hp
theorem CW.fe {σ σ' : St} {o : Nat} {w : AW} (h : CW σ o w) (e : ∀ k, o ≤ k → k ≤ o + 11 → σ' k = σ k) : CW σ' o w := by
  obtain ⟨h1, h2, h3, h4, h5⟩ := h
  refine ⟨?_, ?_, h3.fr (fun k a b => e k (by omega) (by omega)), ?_, h5.fe (fun k a b => e k (by omega) (by omega))⟩
  · rw [e (o + 1) (by omega) (by omega)]; exact h1
  · rw [e (o + 2) (by omega) (by omega)]; exact h2
  · rw [e o (by omega) (by omega)]; exact h4
theorem GC.fe {σ σ' : St} {S : List GR} (h : GC σ S) (e : ∀ k, 16 ≤ k → k ≤ 21 → σ' k = σ k) : GC σ' S := by
  unfold GC
  rw [e 16 (by omega) (by omega), e 17 (by omega) (by omega), e 18 (by omega) (by omega), e 19 (by omega) (by omega), e 20 (by omega) (by omega), e 21 (by omega) (by omega)]
  exact h
theorem WY.fe {σ σ' : St} {S : List GR} (h : WY σ S) (e : ∀ k, 24 ≤ k → k ≤ 28 → σ' k = σ k) : WY σ' S := by
  unfold WY
  rw [e 24 (by omega) (by omega), e 26 (by omega) (by omega)]
  exact h
/-- what no plan tells stays, if the class's cells of it do -/
theorem RelA.fc {σ σ' τ : St} (h : RelA σ τ) (e : ∀ k, (7 ≤ k ∧ k ≤ 15) ∨ (53 ≤ k ∧ k ≤ 64) → σ' k = σ k) (e0 : σ' 0 3 = σ 0 3) : RelA σ' τ := by
  obtain ⟨h1, h2, h3, h4⟩ := h
  refine ⟨?_, fun i hi => ?_, ?_, ?_⟩
  · unfold tapeR
    rw [e 53 (by omega), e 54 (by omega)]
    exact h1
  · rw [e (57 + 2 * i) (by omega), e (58 + 2 * i) (by omega)]
    exact h2 i hi
  · unfold errR
    rw [e 56 (by omega)]
    exact h3
  · unfold imgR
    rw [e0]
    rcases h4 with q | ⟨q1, q2, q3, q4, q5⟩
    · exact Or.inl q
    · exact Or.inr ⟨q1, q2, q3, q4.fr (fun k a b => e k (by omega)), q5.fe (fun k a b => e k (by omega))⟩
/-- and the reference's -/
theorem RelA.fm {σ τ τ' : St} (h : RelA σ τ) (e2 : τ' 2 = τ 2) (e4 : τ' 4 = τ 4) (e10 : τ' 10 = τ 10) (e24 : τ' 24 = τ 24) (e25 : τ' 25 = τ 25) (e26 : τ' 26 = τ 26) (e3 : τ' 0 3 = τ 0 3) (e12 : τ' 0 12 = τ 0 12) : RelA σ τ' := by
  unfold RelA tapeR shR errR imgR
  rw [e2, e4, e10, e24, e25, e26, e3, e12]
  exact h
theorem RelP.fm {σ τ τ' : St} (h : RelP σ τ) (e1 : τ' 1 = τ 1) (e5 : τ' 0 5 = τ 0 5) (e : ∀ k, 5 ≤ k → k ≤ 9 → τ' k = τ k) : RelP σ τ' := by
  unfold RelP GM
  rw [e1, e5, e 5 (by omega) (by omega), e 6 (by omega) (by omega), e 7 (by omega) (by omega), e 8 (by omega) (by omega), e 9 (by omega) (by omega)]
  exact h
/-- the reference's own scratch doesn't matter -/
abbrev scK : List Nat := [3, 11, 12, 13, 14, 15, 16, 17, 18, 19, 20, 21, 22, 23, 27]
abbrev scJ : List Int := [15, 21, 26]
theorem sc_out (k : Nat) (a : 5 ≤ k) (b : k ≤ 9) : k ∉ scK := by
  have : k = 5 ∨ k = 6 ∨ k = 7 ∨ k = 8 ∨ k = 9 := by omega
  rcases this with rfl | rfl | rfl | rfl | rfl <;> decide
theorem Rel.fm {σ τ τ' : St} (h : Rel σ τ) (f : frm scK scJ τ τ') : Rel σ τ' :=
  ⟨h.1.fm (f.1 2 (by decide) (by decide)) (f.1 4 (by decide) (by decide)) (f.1 10 (by decide) (by decide)) (f.1 24 (by decide) (by decide)) (f.1 25 (by decide) (by decide)) (f.1 26 (by decide) (by decide)) (f.2 3 (by decide)) (f.2 12 (by decide)),
   h.2.fm (f.1 1 (by decide) (by decide)) (f.2 5 (by decide)) (fun k a b => f.1 k (by omega) (sc_out k a b))⟩
/-- an error is counted on both sides -/
theorem Rel.err {σ τ : St} (h : Rel σ τ) {k : Int} (hk : 0 ≤ k) (hk2 : k < 8) : Rel (ss σ 56 k (σ 56 k + 1)) (ss τ 4 k (τ 4 k + 1)) := by
  obtain ⟨⟨a1, a2, a3, a4⟩, p⟩ := h
  have eC : ∀ q, q ≠ 56 → ss σ 56 k (σ 56 k + 1) q = σ q := fun q hq => ss_row _ hq _ _
  have eM : ∀ q, q ≠ 4 → ss τ 4 k (τ 4 k + 1) q = τ q := fun q hq => ss_row _ hq _ _
  refine ⟨⟨?_, fun i hi => ?_, fun j h1 h2 => ?_, ?_⟩, ?_⟩
  · unfold tapeR
    rw [eC 53 (by decide), eC 54 (by decide), eM 0 (by decide), eM 10 (by decide)]
    exact a1
  · rw [eC (57 + 2 * i) (by omega), eC (58 + 2 * i) (by omega), eM 24 (by decide), eM 25 (by decide), eM 26 (by decide)]
    exact a2 i hi
  · rw [ss_self, ss_self]
    show (if j = k then σ 56 k + 1 else σ 56 j) = (if j = k then τ 4 k + 1 else τ 4 j)
    by_cases c : j = k
    · rw [if_pos c, if_pos c, a3 k hk hk2]
    · rw [if_neg c, if_neg c]
      exact a3 j h1 h2
  · unfold imgR
    rw [eC 0 (by decide), eM 0 (by decide), eM 2 (by decide)]
    rcases a4 with q | ⟨q1, q2, q3, q4, q5⟩
    · exact Or.inl q
    · exact Or.inr ⟨q1, q2, q3, q4.fr (fun k a b => eC k (by omega)), q5.fe (fun k a b => eC k (by omega))⟩
  · obtain ⟨p1, p2, p3, p4, p5, p6, p7, p8⟩ := p
    unfold RelP
    rw [eM 1 (by decide)]
    refine ⟨p1, p2.fr (fun k a b => eC k (by omega)), p3.fe (fun k a b => eC k (by omega)), ?_, p5.fe (fun k a b => eC k (by omega)), by rw [eC 0 (by decide)]; exact p6, ?_, ?_⟩
    · unfold GM
      rw [eM 0 (by decide), eM 5 (by decide), eM 6 (by decide), eM 7 (by decide), eM 8 (by decide), eM 9 (by decide)]
      exact p4
    · unfold thR
      rw [eC 0 (by decide)]
      rcases p7 with q | ⟨q1, q2, q3⟩
      · exact Or.inl q
      · exact Or.inr ⟨q1, q2, q3.fe (fun k a b => eC k (by omega))⟩
    · unfold wyR
      rw [eC 23 (by decide)]
      rcases p8 with q | ⟨q1, q2⟩
      · exact Or.inl q
      · exact Or.inr ⟨q1, q2.fe (fun k a b => eC k (by omega))⟩
theorem fail_ok {σ : St} {k : Int} {Q : Int → St → Prop} (hk : 0 ≤ k) (hk2 : k < 8) (h : Q (-1000000000 - k) (ss σ 56 k (σ 56 k + 1))) : V_P_fail σ k Q := by
  unfold V_P_fail
  rw [i32_id (x := k) (by omega) (by omega)]
  exact ⟨⟨hk, hk2⟩, ⟨hk, hk2⟩, fun σ1 e => by rw [e]; exact h⟩
theorem failLong_ok {σ : St} {k : Int} {Q : Int → St → Prop} (hk : 0 ≤ k) (hk2 : k < 8) (h : Q (-9000000000000000000 - k) (ss σ 56 k (σ 56 k + 1))) : V_P_failLong σ k Q := by
  unfold V_P_failLong
  rw [i32_id (x := k) (by omega) (by omega)]
  exact ⟨⟨hk, hk2⟩, ⟨hk, hk2⟩, fun σ1 e => by rw [e]; exact h⟩
theorem errs_ok {τ : St} {k e : Int} {Q : Int → St → Prop} (hk : 0 ≤ k) (hk2 : k < 8) (he : e = -1000000000 - k) (h : Q e (ss τ 4 k (τ 4 k + 1))) : V_M_errs τ e Q := by
  unfold V_M_errs
  have : -1000000000 - e = k := by omega
  rw [this, i32_id (x := k) (by omega) (by omega)]
  exact ⟨⟨hk, hk2⟩, ⟨hk, hk2⟩, fun σ1 e => by rw [e]; exact h⟩
theorem errsLong_ok {τ : St} {k e : Int} {Q : Int → St → Prop} (hk : 0 ≤ k) (hk2 : k < 8) (he : e = -1000000000 - k) (h : Q (-9000000000000000000 - k) (ss τ 4 k (τ 4 k + 1))) : V_M_errsLong τ e Q := by
  unfold V_M_errsLong
  have e1 : -1000000000 - e = k := by omega
  have e2 : e - -1000000000 = -k := by omega
  rw [e1, e2, i32_id (x := k) (by omega) (by omega), i32_id (x := -k) (by omega) (by omega)]
  have e3 : (-9000000000000000000 : Int) + -k = -9000000000000000000 - k := by omega
  rw [e3]
  exact ⟨⟨hk, hk2⟩, ⟨hk, hk2⟩, fun σ1 e => by rw [e]; exact h⟩
theorem in_ok {τ : St} {a b c : Int} {Q : Int → St → Prop} (ha : i64 a = a) (hb : i64 b = b) (hc : i64 c = c) (h1 : b ≤ a ∧ a ≤ c → Q 1 τ) (h0 : ¬ (b ≤ a ∧ a ≤ c) → Q 0 τ) : V_M_in τ a b c Q := by
  unfold V_M_in
  rw [ha, hb, hc]
  exact ⟨fun z => h0 (by omega), fun z => ⟨fun y => h0 (by omega), fun y => h1 ⟨z, y⟩⟩⟩
theorem n10 : ¬ i32 1 = 0 := by rw [k32_1]; decide
theorem z00 : i32 0 = 0 := k32_0
/-- both fail alike -/
theorem both_fail {σ τ : St} (hR : Rel σ τ) {k e : Int} (hk : 0 ≤ k) (hk2 : k < 8) (he : e = -1000000000 - k) {VM : St → (Int → St → Prop) → Prop} (hVM : ∀ Q : Int → St → Prop, V_M_errs τ e Q → VM τ Q) : V_P_fail σ k (fun r σ' => VM τ (fun r' τ' => i32 r = i32 r' ∧ Rel σ' τ')) :=
  fail_ok hk hk2 (hVM _ (errs_ok hk hk2 he ⟨by rw [he], hR.err hk hk2⟩))
theorem i64_of32 {a : Int} (h : i32 a = a) : i64 a = a := by
  have h1 := i32_ge a
  have h2 := i32_lt a
  exact i64_id (by omega) (by omega)

-- ORDERS: the class reckons
theorem sumN_front (f : Nat → Nat) (n : Nat) : sumN f (n + 1) = f 0 + sumN (fun i => f (i + 1)) n := by
  induction n with
  | zero => show 0 + f 0 = f 0 + 0; omega
  | succ n ih =>
    show sumN f (n + 1) + f (n + 1) = f 0 + (sumN (fun i => f (i + 1)) n + f (n + 1))
    rw [ih]
    omega
theorem pcN_pcS (n x : Nat) : pcN n x = pcS x n := by
  induction n generalizing x with
  | zero => rfl
  | succ n ih =>
    show x % 2 + pcN n (x / 2) = sumN (fun s => if x.testBit s then 1 else 0) (n + 1)
    rw [sumN_front, ih]
    congr 1
    · rw [Nat.testBit_zero]
      have : x % 2 = 0 ∨ x % 2 = 1 := by omega
      rcases this with e | e <;> rw [e] <;> rfl
    · unfold pcS
      refine sumN_congr n (fun i _ => ?_)
      rw [Nat.testBit_succ]
theorem pcS_top {D n m : Nat} (h : D < 2 ^ n) (hm : n ≤ m) : pcS D m = pcS D n := by
  induction m with
  | zero => rw [show n = 0 by omega]
  | succ m ih =>
    by_cases c : n = m + 1
    · rw [c]
    · rw [← ih (by omega)]
      show sumN _ m + (if D.testBit m then 1 else 0) = _
      rw [Nat.testBit_lt_two_pow (Nat.lt_of_lt_of_le h (Nat.pow_le_pow_right (by decide) (by omega)))]
      rfl
theorem pc48 {S : List GR} {D : Nat} (h : D < 2 ^ S.length) (hl : S.length ≤ 48) : pcN 48 D = pcS D S.length := by
  rw [pcN_pcS, pcS_top h hl]
def wyD (S : List GR) (D : Nat) : Nat := wyS S (S.length - pcS D S.length) D
theorem bitsOf_ok {σ : St} {l k b : Nat} {L K : Int} {Q : Int → St → Prop} (eL : L = l) (eK : K = k) (hl : l < 4) (hk : k ≤ 12) (hb : σ 28 ((13 * l + k : Nat) : Int) = b) (q : Q b σ) : V_Ways_bitsOf σ L K Q := by
  unfold V_Ways_bitsOf
  rw [eL, eK, show (l : Int) * 13 + k = ((13 * l + k : Nat) : Int) by omega, i32_id (x := ((13 * l + k : Nat) : Int)) (by omega) (by omega), hb]
  exact ⟨⟨by omega, by omega⟩, q⟩
theorem countOf_ok {σ : St} {x : Nat} {X : Int} {Q : Int → St → Prop} (e : X = x) (h : x < 1296) (q : Q (σ 24 x) σ) : V_Ways_countOf σ X Q := by
  unfold V_Ways_countOf
  rw [e, i32_id (x := (x : Int)) (by omega) (by omega)]
  exact ⟨fun z => absurd h (by omega), fun _ => ⟨⟨by omega, by omega⟩, q⟩⟩
theorem onward_ok {σ : St} {S : List GR} {c : Nat → Nat} {D m l : Nat} {L K X : Int} {Q : Int → St → Prop} (hG : GC σ S) (hO : gOk S) (hB : gB S) (hs : gSort S) (hl : S.length ≤ 20) (hL : LT σ S S.length) (hst : ∀ l : Nat, l < 4 → σ 26 l = (stD S l : Nat)) (hD : isD S c D) (hc : ∀ l, l < 4 → c l ≤ lc S l S.length) (hm : m + 1 = S.length - pcS D S.length) (hn : ∀ s, s < S.length → freeB S D s = true → σ 24 (stOf S (stD S) (D ||| 2 ^ s) : Nat) = (wyD S (D ||| 2 ^ s) : Nat)) (h4 : l < 4) (eL : L = l) (eK : K = (c l : Nat)) (eX : X = (stOf S (stD S) D : Nat)) (q : Q (sumN (inL S (wF S m D) l) S.length : Nat) σ) : V_Ways_onward σ L K D X Q := by
  have p := p48
  have hp := isD_lpre hD
  have e1 := isD_dc hD l (hc l h4)
  have h12 := lc_12 hO hs l S.length (Nat.le_refl _)
  have hcl := hc l h4
  have hD48 : D < 2 ^ 48 := Nat.lt_of_lt_of_le hp.1 (Nat.pow_le_pow_right (by decide) (by omega))
  unfold V_Ways_onward
  rw [eL, eK, i32_id (x := (l : Int)) (by omega) (by omega), hL.1 l h4, i32_id (x := ((c l : Nat) : Int)) (by omega) (by omega), i32_id (x := ((lc S l S.length : Nat) : Int)) (by omega) (by omega), i32_id (x := (l : Int) * 12 + (c l : Nat)) (by omega) (by omega)]
  refine ⟨⟨by omega, by omega⟩, fun hd => ?_, fun hd => ⟨⟨by omega, by omega⟩, ?_⟩⟩
  · rcases line_sum hO hB hs (m := m) (l := l) hp with ⟨_, e⟩ | ⟨s, s1, _, _, s4, e⟩
    · rw [e] at q; exact q
    · omega
  · rcases line_sum hO hB hs (m := m) (l := l) hp with ⟨s4, e⟩ | ⟨s, s1, s2, s3, s4, e⟩
    · omega
    · have hsl := hL.2.1 s s1
      rw [s2, s3, e1] at hsl
      rw [show (l : Int) * 12 + (c l : Nat) = ((12 * l + c l : Nat) : Int) by omega, hsl]
      rw [e] at q
      refine isFree_ok hG hB (by omega) (by omega) (by omega) hD48 (fun hf => ⟨fun _ => ⟨⟨by omega, by omega⟩, ?_⟩, fun z => absurd z n10⟩) (fun hf => ⟨fun z => absurd z00 z, fun _ => ?_⟩)
      · have hfb := freeB_iff.mpr hf
        have hnb := (fr_bits hfb).1
        have es := st_add (st := stD S) s1 hnb
        rw [s2] at es
        refine countOf_ok (x := stOf S (stD S) (D ||| 2 ^ s)) (by rw [hst l h4, eX, es]; omega) (st_lt hO hl _) ?_
        rw [hn s s1 hfb]
        have ew : wF S m D s = wyD S (D ||| 2 ^ s) := by
          unfold wF wyD
          rw [hfb, pc_add s1 hnb, show S.length - (pcS D S.length + 1) = m by omega]
          rfl
        rw [ew] at q
        exact q
      · have ew : wF S m D s = 0 := by
          unfold wF
          rw [freeB_no hf]
          rfl
        rw [ew] at q
        exact q
theorem reckonState_ok {σ : St} {S : List GR} {c : Nat → Nat} {a1 a2 a3 a4 : Int} {Q : St → Prop} (hG : GC σ S) (hO : gOk S) (hB : gB S) (hs : gSort S) (hl : S.length ≤ 20) (hL : LT σ S S.length) (hst : ∀ l : Nat, l < 4 → σ 26 l = (stD S l : Nat)) (hc : ∀ l, l < 4 → c l ≤ lc S l S.length) (E1 : a1 = (c 0 : Nat)) (E2 : a2 = (c 1 : Nat)) (E3 : a3 = (c 2 : Nat)) (E4 : a4 = (c 3 : Nat)) (hn : ∀ D s, isD S c D → s < S.length → freeB S D s = true → σ 24 (stOf S (stD S) (D ||| 2 ^ s) : Nat) = (wyD S (D ||| 2 ^ s) : Nat))
    (k : ∀ (D : Nat) (σ' : St), isD S c D → σ' = ss σ 24 (stOf S (stD S) D : Nat) (wyD S D : Nat) → Q σ') : V_Ways_reckonState σ a1 a2 a3 a4 Q := by
  have p := p48
  have q12 : ∀ l, l < 4 → c l ≤ 12 := fun l h => Nat.le_trans (hc l h) (lc_12 hO hs l S.length (Nat.le_refl _))
  obtain ⟨b0, x1, x2, x3⟩ := hL.2.2 0 (c 0) (by omega) (hc 0 (by omega))
  obtain ⟨b1, y1, y2, y3⟩ := hL.2.2 1 (c 1) (by omega) (hc 1 (by omega))
  obtain ⟨b2, z1, z2, z3⟩ := hL.2.2 2 (c 2) (by omega) (hc 2 (by omega))
  obtain ⟨b3, w1, w2, w3⟩ := hL.2.2 3 (c 3) (by omega) (hc 3 (by omega))
  have n1 : b0 ||| b1 < 2 ^ 48 := Nat.or_lt_two_pow x2 y2
  have n2 : b0 ||| b1 ||| b2 < 2 ^ 48 := Nat.or_lt_two_pow n1 z2
  have n3 : b0 ||| b1 ||| b2 ||| b3 < 2 ^ 48 := Nat.or_lt_two_pow n2 w2
  have hD : isD S c (b0 ||| b1 ||| b2 ||| b3) := by
    intro i
    rw [Nat.testBit_or, Nat.testBit_or, Nat.testBit_or, Bool.or_eq_true, Bool.or_eq_true, Bool.or_eq_true, x3 i, y3 i, z3 i, w3 i]
    constructor
    · intro h
      rcases h with ((⟨h1, h2, h3⟩ | ⟨h1, h2, h3⟩) | ⟨h1, h2, h3⟩) | ⟨h1, h2, h3⟩ <;> exact ⟨h1, by rw [h2]; exact h3⟩
    · intro ⟨h1, h2⟩
      have h4 := (ln_lt hO h1).1
      have hc4 : lnS S i = 0 ∨ lnS S i = 1 ∨ lnS S i = 2 ∨ lnS S i = 3 := by omega
      rcases hc4 with e | e | e | e <;> rw [e] at h2
      · exact Or.inl (Or.inl (Or.inl ⟨h1, e, h2⟩))
      · exact Or.inl (Or.inl (Or.inr ⟨h1, e, h2⟩))
      · exact Or.inl (Or.inr ⟨h1, e, h2⟩)
      · exact Or.inr ⟨h1, e, h2⟩
  obtain ⟨D, hDe⟩ : ∃ D, D = b0 ||| b1 ||| b2 ||| b3 := ⟨_, rfl⟩
  rw [← hDe] at hD n3
  have hp := isD_lpre hD
  have hsl := st_lt hO hl D
  have hse : stOf S (stD S) D = c 0 * stD S 0 + c 1 * stD S 1 + c 2 * stD S 2 + c 3 * stD S 3 := by
    rw [stOf_eq hO, isD_dc hD 0 (hc 0 (by omega)), isD_dc hD 1 (hc 1 (by omega)), isD_dc hD 2 (hc 2 (by omega)), isD_dc hD 3 (hc 3 (by omega))]
  unfold V_Ways_reckonState
  intro X hX
  have hX' : X = (stOf S (stD S) D : Nat) := by
    have t0 : σ 26 0 = (stD S 0 : Nat) := hst 0 (by decide)
    have t1 : σ 26 1 = (stD S 1 : Nat) := hst 1 (by decide)
    have t2 : σ 26 2 = (stD S 2 : Nat) := hst 2 (by decide)
    have t3 : σ 26 3 = (stD S 3 : Nat) := hst 3 (by decide)
    rw [hX, E1, E2, E3, E4, hse, t0, t1, t2, t3]
    simp only [Int.natCast_add, Int.natCast_mul]
  have hi : i32 X = (stOf S (stD S) D : Nat) := by rw [hX']; exact i32_id (by omega) (by omega)
  rw [hi]
  refine ⟨fun _ => ?_, fun z => absurd hsl (by omega)⟩
  refine bitsOf_ok (l := 0) rfl E1 (by decide) (q12 0 (by decide)) x1 ?_
  refine bitsOf_ok (l := 1) rfl E2 (by decide) (q12 1 (by decide)) y1 ?_
  refine bitsOf_ok (l := 2) rfl E3 (by decide) (q12 2 (by decide)) z1 ?_
  refine bitsOf_ok (l := 3) rfl E4 (by decide) (q12 3 (by decide)) w1 ?_
  intro Y hY
  rw [lro_ok (by omega) (by omega), lro_ok (by omega) (by omega), lro_ok (by omega) (by omega), ← hDe] at hY
  rw [hY]
  refine bitCount_ok n3 ?_
  rw [pc48 hp.1 (by omega), hG.1]
  have hpl := pc_le D S.length
  rw [i32_id (x := ((pcS D S.length : Nat) : Int)) (by omega) (by omega), i32_id (x := (S.length : Int)) (by omega) (by omega)]
  refine ⟨fun hne => ?_, fun he => ⟨⟨by omega, by omega⟩, fun v hv => k D v hD ?_⟩⟩
  · obtain ⟨m, hm⟩ : ∃ m, m + 1 = S.length - pcS D S.length := ⟨S.length - pcS D S.length - 1, by omega⟩
    refine onward_ok hG hO hB hs hl hL hst hD hc hm (fun s => hn D s hD) (l := 0) (by decide) rfl E1 hX' ?_
    refine onward_ok hG hO hB hs hl hL hst hD hc hm (fun s => hn D s hD) (l := 1) (by decide) rfl E2 hX' ?_
    refine onward_ok hG hO hB hs hl hL hst hD hc hm (fun s => hn D s hD) (l := 2) (by decide) rfl E3 hX' ?_
    refine onward_ok hG hO hB hs hl hL hst hD hc hm (fun s => hn D s hD) (l := 3) (by decide) rfl E4 hX' ?_
    refine ⟨⟨by omega, by omega⟩, fun v hv => k D v hD ?_⟩
    rw [hv]
    have e : wyD S D = sumN (inL S (wF S m D) 0) S.length + sumN (inL S (wF S m D) 1) S.length + sumN (inL S (wF S m D) 2) S.length + sumN (inL S (wF S m D) 3) S.length := by
      unfold wyD
      rw [← hm, wyS_s, sum4 hO _ _ (Nat.le_refl _)]
    rw [e]
    simp only [Int.natCast_add]
  · rw [hv]
    have e : wyD S D = 1 := by
      unfold wyD
      rw [show S.length - pcS D S.length = 0 by omega]
      rfl
    rw [e]
    rfl

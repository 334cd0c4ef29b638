-- ORDERS: the class sorts into lines
def LT (u : St) (S : List GR) (n : Nat) : Prop := (∀ l : Nat, l < 4 → u 25 l = (lc S l n : Nat)) ∧ (∀ s : Nat, s < n → u 27 ((12 * lnS S s + lc S (lnS S s) s : Nat) : Int) = s) ∧ (∀ l k : Nat, l < 4 → k ≤ lc S l n → ∃ b : Nat, u 28 ((13 * l + k : Nat) : Int) = b ∧ b < 2 ^ 48 ∧ ∀ i, b.testBit i = true ↔ i < n ∧ lnS S i = l ∧ lc S l i < k)
theorem LT.fe {u v : St} {S : List GR} {n : Nat} (h : LT u S n) (e25 : v 25 = u 25) (e27 : v 27 = u 27) (e28 : v 28 = u 28) : LT v S n := by
  unfold LT
  rw [e25, e27, e28]
  exact h
theorem lc_s (S : List GR) (l n : Nat) : lc S l (n + 1) = lc S l n + (if lnS S n = l then 1 else 0) := by
  have e : lc S l (n + 1) = lc S l n + (if lnB S l n then 1 else 0) := cB_s _ _
  rw [e]
  congr 1
  by_cases c : lnS S n = l
  · rw [if_pos c, if_pos (lnB_iff.mpr c)]
  · rw [if_neg c, if_neg (fun z => c (lnB_iff.mp z))]
theorem LT_step {u v : St} {S : List GR} {n b0 : Nat} (hO : gOk S) (hs : gSort S) (hl : S.length ≤ 48) (hn : n < S.length) (h : LT u S n) (hb0 : u 28 ((13 * lnS S n + lc S (lnS S n) n : Nat) : Int) = b0)
    (e25 : v 25 = fun (i : Int) => if i = ((lnS S n : Nat) : Int) then ((lc S (lnS S n) n : Nat) : Int) + 1 else u 25 i) (e27 : v 27 = fun (i : Int) => if i = ((12 * lnS S n + lc S (lnS S n) n : Nat) : Int) then (n : Int) else u 27 i) (e28 : v 28 = fun (i : Int) => if i = ((13 * lnS S n + lc S (lnS S n) n + 1 : Nat) : Int) then ((b0 ||| 2 ^ n : Nat) : Int) else u 28 i) : LT v S (n + 1) := by
  obtain ⟨h1, h2, h3⟩ := h
  have hl4 := (ln_lt hO hn).1
  have hk := (lc_row hO hs hn).2
  obtain ⟨l, hle⟩ : ∃ l, l = lnS S n := ⟨_, rfl⟩
  obtain ⟨q, hqe⟩ : ∃ q, q = lc S l n := ⟨_, rfl⟩
  rw [← hle] at hb0 e25 e27 e28 hl4 hk
  rw [← hqe] at hb0 e25 e27 e28 hk
  refine ⟨fun m hm => ?_, fun s hs' => ?_, fun m k hm hkm => ?_⟩
  · rw [e25, lc_s, ← hle]
    show (if (m : Int) = (l : Int) then (q : Int) + 1 else u 25 m) = _
    by_cases c : l = m
    · rw [if_pos (by omega), if_pos c, ← c, ← hqe]
      omega
    · rw [if_neg (by omega), if_neg c, h1 m hm]
      rfl
  · rw [e27]
    show (if ((12 * lnS S s + lc S (lnS S s) s : Nat) : Int) = ((12 * l + q : Nat) : Int) then (n : Int) else u 27 _) = _
    by_cases c : s = n
    · subst c
      rw [← hle, ← hqe, if_pos rfl]
    · have r1 := (lc_row hO hs (s := s) (by omega)).2
      rw [if_neg (fun z => ?_)]
      · exact h2 s (by omega)
      · have e1 : lnS S s = l := by omega
        have e2 : lc S (lnS S s) s = q := by omega
        rw [e1] at e2
        exact c (lc_uq (l := l) e1 hle.symm (by rw [e2, hqe]))
  · have q12 := lc_12 hO hs m (n + 1) (by omega)
    rw [e28]
    show ∃ b : Nat, (if ((13 * m + k : Nat) : Int) = ((13 * l + q + 1 : Nat) : Int) then ((b0 ||| 2 ^ n : Nat) : Int) else u 28 _) = b ∧ _
    by_cases c : m = l ∧ k = q + 1
    · obtain ⟨rfl, rfl⟩ := c
      obtain ⟨b, b1, b2, b3⟩ := h3 m q hm (by omega)
      have : b = b0 := by rw [hb0] at b1; omega
      subst this
      refine ⟨b ||| 2 ^ n, by rw [if_pos (by omega)], Nat.or_lt_two_pow b2 (Nat.pow_lt_pow_right (by decide) (by omega)), fun i => ?_⟩
      rw [or_bit, b3 i]
      constructor
      · intro w
        rcases w with ⟨w1, w2, w3⟩ | w
        · exact ⟨by omega, w2, by omega⟩
        · subst w
          exact ⟨by omega, hle.symm, by omega⟩
      · intro ⟨w1, w2, w3⟩
        by_cases d : i = n
        · exact Or.inr d
        · have := lc_lt S (show i < n by omega) w2
          exact Or.inl ⟨by omega, w2, by omega⟩
    · have hk' : k ≤ lc S m n := by
        rw [lc_s, ← hle] at hkm
        by_cases d : l = m
        · rw [if_pos d] at hkm
          have : ¬ k = q + 1 := fun z => c ⟨d.symm, z⟩
          rw [← d, ← hqe] at hkm ⊢
          omega
        · rw [if_neg d] at hkm
          omega
      obtain ⟨b, b1, b2, b3⟩ := h3 m k hm hk'
      refine ⟨b, ?_, b2, fun i => ?_⟩
      · rw [if_neg (by omega)]
        exact b1
      · rw [b3 i]
        constructor
        · intro ⟨w1, w2, w3⟩
          exact ⟨by omega, w2, w3⟩
        · intro ⟨w1, w2, w3⟩
          refine ⟨?_, w2, w3⟩
          by_cases d : i = n
          · exfalso
            subst d
            have : l = m := by rw [hle, w2]
            rw [← this] at w3 hk'
            omega
          · omega
theorem idv2 {g : Int} (h1 : 0 ≤ g) (h2 : g < 7) : idv g 2 = ((g.toNat / 2 : Nat) : Int) := by
  rw [idv_nn h1 (by omega) (by decide) (by decide)]
  omega
theorem sortIntoLines_ok {σ : St} {S : List GR} {Q : St → Prop} (hG : GC σ S) (hO : gOk S) (hs : gSort S) (hl : S.length ≤ 48) (hl2 : S.length ≤ 20) (k : ∀ σ' : St, cfr 25 28 σ σ' → LT σ' S S.length → (∀ l : Nat, l < 4 → σ' 26 l = (stD S l : Nat)) → Q σ') : V_Ways_sortIntoLines σ Q := by
  have p := p48
  unfold V_Ways_sortIntoLines
  refine fillI_ok (by decide) (fillJ_ok (by decide) ?_)
  generalize hu0 : sf (sf σ 25 _) 28 _ = u0
  have f0 : cfr 25 28 σ u0 := by rw [← hu0]; exact (cfr.f (by decide) (by decide)).tr (cfr.f (by decide) (by decide))
  have c25 : ∀ l : Nat, l < 4 → u0 25 l = 0 := fun l h => by
    rw [← hu0, sf_row _ (by decide), sf_at]
    exact if_pos ⟨by omega, by omega⟩
  have c28 : ∀ i : Nat, i < 52 → u0 28 i = 0 := fun i h => by
    rw [← hu0, sf_at]
    exact if_pos ⟨by omega, by omega⟩
  have L0 : LT u0 S 0 := by
    refine ⟨fun l hl => c25 l hl, fun s h => by omega, fun l k hl hk => ?_⟩
    have : k = 0 := by
      have e : lc S l 0 = 0 := rfl
      omega
    subst this
    refine ⟨0, c28 _ (by omega), by decide, fun i => ?_⟩
    rw [Nat.zero_testBit]
    exact ⟨fun z => (by cases z), fun z => absurd z.1 (by omega)⟩
  refine wl1 (fun i u => ∃ n : Nat, n ≤ S.length ∧ i = n ∧ cfr 25 28 σ u ∧ LT u S n) (fun i _ => (S.length - i).toNat) ⟨0, by omega, rfl, f0, L0⟩ ?_
  intro bk i u hI hb
  obtain ⟨n, hn, rfl, f, hL⟩ := hI
  have uG : GC u S := hG.fe (fun k a b => f k (by omega))
  rw [uG.1, i32_id (x := (n : Int)) (by omega) (by omega), i32_id (x := (S.length : Int)) (by omega) (by omega)]
  refine ⟨fun hc => ?_, fun hc => ⟨⟨by omega, by omega⟩, fun x hx => ?_⟩⟩
  · have hnn : n = S.length := by omega
    rw [hnn] at hL
    refine wl2 (fun i y v => ∃ l : Nat, l ≤ 4 ∧ i = l ∧ y = (stD S l : Nat) ∧ cfr 25 28 σ v ∧ LT v S S.length ∧ ∀ m : Nat, m < l → v 26 m = (stD S m : Nat)) (fun i _ _ => (4 - i).toNat) ⟨0, by omega, rfl, rfl, f, hL, fun m hm => by omega⟩ ?_
    intro bk2 i y v hI2 hb2
    obtain ⟨l, h4, rfl, rfl, vf, vL, vs⟩ := hI2
    rw [i32_id (x := (l : Int)) (by omega) (by omega)]
    refine ⟨fun hd => k v vf vL (fun m hm => vs m (by omega)), fun hd => ⟨⟨by omega, by omega⟩, fun w hw => ⟨⟨by omega, by omega⟩, fun y hy => ?_⟩⟩⟩
    have w25 : w 25 = v 25 := by rw [hw, ss_row _ (by decide)]
    refine hb2 _ _ _ ⟨l + 1, by omega, by omega, ?_, vf.tr (by rw [hw]; exact cfr.s (by decide) (by decide)), vL.fe w25 (by rw [hw, ss_row _ (by decide)]) (by rw [hw, ss_row _ (by decide)]), fun m hm => ?_⟩ (by omega)
    · rw [hy, w25, vL.1 l (by omega)]
      show _ = ((stD S l * (lc S l S.length + 1) : Nat) : Int)
      rw [Int.natCast_mul]
      rfl
    · rw [hw, ss_self]
      by_cases c : m = l
      · rw [c]; simp
      · have : ¬ (m : Int) = (l : Int) := by omega
        simp only [if_neg this]
        exact vs m (by omega)
  · have hg := ln_lt hO (s := n) (by omega)
    have hk := (lc_row hO hs (s := n) (by omega)).2
    rw [(GC_at uG (s := (n : Int)) (by omega) (by omega)).1, idv2 hg.2.1 hg.2.2.1] at hx
    have hx' : x = (lnS S n : Nat) := hx
    obtain ⟨l, hle⟩ : ∃ l, l = lnS S n := ⟨_, rfl⟩
    rw [← hle] at hx' hk hg
    rw [hx', i32_id (x := (l : Int)) (by omega) (by omega), hL.1 l hg.1]
    refine ⟨⟨by omega, by omega⟩, fun y hy => ?_⟩
    obtain ⟨q, hqe⟩ : ∃ q, q = lc S l n := ⟨_, rfl⟩
    rw [← hqe] at hy hk
    rw [hy, i32_id (x := (q : Int)) (by omega) (by omega), i32_id (x := (l : Int) * 12 + q) (by omega) (by omega), i32_id (x := (l : Int) * 13 + q) (by omega) (by omega), i32_id (x := (l : Int) * 13 + q + 1) (by omega) (by omega)]
    refine ⟨fun hd => absurd hk (by omega), fun hd => ⟨⟨by omega, by omega⟩, fun v hv => ⟨⟨by omega, by omega⟩, ⟨by omega, by omega⟩, fun w hw => ⟨⟨by omega, by omega⟩, fun z hz => ?_⟩⟩⟩⟩
    obtain ⟨b0, b1, b2, b3⟩ := hL.2.2 l q hg.1 (by omega)
    have hp2 : (2 : Nat) ^ n < 2 ^ 48 := Nat.pow_lt_pow_right (by decide) (by omega)
    rw [show (l : Int) * 13 + q = ((13 * l + q : Nat) : Int) by omega, show v 28 = u 28 by rw [hv, ss_row _ (by decide)], b1, lsh1_ok (by omega), lro_ok (by omega) (by omega)] at hw
    refine hb _ _ ⟨n + 1, by omega, by omega, ?_, ?_⟩ (by omega)
    · refine f.tr ?_
      rw [hz, hw, hv]
      exact ((cfr.s (by decide) (by decide)).tr (cfr.s (by decide) (by decide))).tr (cfr.s (by decide) (by decide))
    · refine LT_step hO hs hl (by omega) hL (b0 := b0) (by rw [← hle, ← hqe]; exact b1) ?_ ?_ ?_
      · rw [← hle, ← hqe, hz, ss_self, hw, ss_row _ (by decide), hv, ss_row _ (by decide)]
      · rw [← hle, ← hqe, hz, ss_row _ (by decide), hw, ss_row _ (by decide), hv, ss_self, show (l : Int) * 12 + q = ((12 * l + q : Nat) : Int) by omega]
      · rw [← hle, ← hqe, hz, ss_row _ (by decide), hw, ss_self, hv, ss_row _ (by decide)]
        rfl

-- ORDERS: the reference's table
def hF (D : Nat) : Int := irm (isu ((D : Int) * 40503) 7) 8192
theorem isu_nn (x : Int) : 0 ≤ isu x 7 ∧ isu x 7 ≤ 2147483647 := by
  unfold isu
  have e : ((Int32.ofInt x).toUInt32 >>> ((Int32.ofInt 7).toUInt32 &&& Int32.toUInt32 31)).toInt32.toBitVec.toNat < 2 ^ 31 := by
    show ((Int32.ofInt x).toUInt32 >>> ((Int32.ofInt 7).toUInt32 &&& Int32.toUInt32 31)).toNat < 2 ^ 31
    rw [UInt32.toNat_shiftRight, Nat.shiftRight_eq_div_pow]
    have h1 : ((Int32.ofInt 7).toUInt32 &&& Int32.toUInt32 31).toNat % 32 = 7 := by decide +kernel
    rw [h1]
    have := UInt32.toNat_lt (Int32.ofInt x).toUInt32
    omega
  rw [ti32 e]
  omega
theorem hF_rng (D : Nat) : ∃ h : Nat, hF D = h ∧ h < 8192 := by
  obtain ⟨h1, h2⟩ := isu_nn ((D : Int) * 40503)
  unfold hF
  rw [irm_nn h1 h2 (by decide) (by decide)]
  exact ⟨(isu ((D : Int) * 40503) 7 % 8192).toNat, by omega, by omega⟩
theorem irm_next {x : Nat} (h : x < 8192) : irm ((x : Int) + 1) 8192 = (((x + 1) % 8192 : Nat) : Int) := by
  rw [irm_nn (by omega) (by omega) (by decide) (by decide)]
  omega
/-- with each all that lies ahead of it -/
def cl (S : List GR) (D : Nat) : Prop := D < 2 ^ S.length ∧ ∀ t, D.testBit t = true → ∀ i, led S i t → D.testBit i = true
theorem cl_lpre {S : List GR} (hO : gOk S) (hB : gB S) (hs : gSort S) {D : Nat} (h : cl S D) : lpre S D := ⟨h.1, fun a b hab hb e hbit => h.2 b hbit a (led_near hB hs hab hb (ln_near hO hs hab hb e).1)⟩
theorem cl_add {S : List GR} {D s : Nat} (h : cl S D) (hsl : s < S.length) (hf : freeB S D s = true) : cl S (D ||| 2 ^ s) := by
  obtain ⟨f1, f2⟩ := fr_bits hf
  refine ⟨Nat.or_lt_two_pow h.1 (Nat.pow_lt_pow_right (by decide) hsl), fun t ht i hi => ?_⟩
  rcases (or_bit _ _ _).mp ht with q | q
  · exact (or_bit _ _ _).mpr (Or.inl (h.2 t q i hi))
  · subst q
    exact (or_bit _ _ _).mpr (Or.inl (f2 i hi))
theorem cl_0 (S : List GR) : cl S 0 := ⟨Nat.two_pow_pos _, fun t ht => by rw [Nat.zero_testBit] at ht; cases ht⟩
def HT (τ : St) (S : List GR) : Prop :=
  (∀ k : Nat, k < 8192 → τ 22 k = -1 ∨ ∃ D : Nat, cl S D ∧ τ 22 k = D ∧ τ 23 k = (wyD S D : Nat)) ∧ (∀ k k' : Nat, k < 8192 → k' < 8192 → τ 22 k = τ 22 k' → 0 ≤ τ 22 k → k = k') ∧ ∀ k D h : Nat, k < 8192 → τ 22 k = D → hF D = h → ∃ d : Nat, d < 8192 ∧ k = (h + d) % 8192 ∧ ∀ j : Nat, j < d → 0 ≤ τ 22 (((h + j) % 8192 : Nat) : Int)
theorem HT_hole {τ : St} {S : List GR} (hO : gOk S) (hB : gB S) (hs : gSort S) (hl : S.length ≤ 20) (h : HT τ S) : ∃ k : Nat, k < 8192 ∧ τ 22 k = -1 := by
  refine Classical.byContradiction (fun z => ?_)
  have ex : ∀ k : Nat, ∃ D : Nat, k < 8192 → cl S D ∧ τ 22 k = D := fun k => by
    by_cases c : k < 8192
    · rcases h.1 k c with q | ⟨D, q1, q2, q3⟩
      · exact absurd ⟨k, c, q⟩ z
      · exact ⟨D, fun _ => ⟨q1, q2⟩⟩
    · exact ⟨0, fun w => absurd w c⟩
  obtain ⟨f, hf⟩ := Classical.axiomOfChoice ex
  have := cB_inj (B := fun _ => true) (C := fun _ => true) (n := 1296) (fun k => stOf S (stD S) (f k)) 8192 (fun i hi _ => ⟨st_lt hO hl _, rfl⟩) (fun i j hi hj _ _ he => by
    obtain ⟨a1, a2⟩ := hf i hi
    obtain ⟨b1, b2⟩ := hf j hj
    have := st_inj hO (cl_lpre hO hB hs a1) (cl_lpre hO hB hs b1) he
    exact h.2.1 i j hi hj (by rw [a2, b2, this]) (by omega))
  rw [cB_all, cB_all] at this
  omega
/-- from the hole on: how far it is -/
theorem hole_far {h e : Nat} (he : e < 8192) (hh : h < 8192) : ∃ d : Nat, d < 8192 ∧ e = (h + d) % 8192 := ⟨(e + 8192 - h) % 8192, by omega, by omega⟩
abbrev wyK : List Nat := [22, 23]
theorem GM_wy {τ τ' : St} {S : List GR} (h : GM τ S) (f : frm wyK [] τ τ') : GM τ' S := by
  unfold GM
  rw [f.2 5 (by decide), f.1 5 (by decide) (by decide), f.1 6 (by decide) (by decide), f.1 7 (by decide) (by decide), f.1 8 (by decide) (by decide), f.1 9 (by decide) (by decide)]
  exact h
/-- what is new in the table has at least p -/
def NE (S : List GR) (τ τ' : St) (p : Nat) : Prop := ∀ k E : Nat, k < 8192 → τ' 22 k = E → (∃ k' : Nat, k' < 8192 ∧ τ 22 k' = E) ∨ p ≤ pcS E S.length
theorem HT_ins {τ τ' : St} {S : List GR} {D h d : Nat} (hT : HT τ S) (hD : cl S D) (hh : hF D = h) (hd : d < 8192) (hhole : τ 22 (((h + d) % 8192 : Nat) : Int) = -1) (hno : ∀ k : Nat, k < 8192 → ¬ τ 22 k = D) (hocc : ∀ j : Nat, j < d → 0 ≤ τ 22 (((h + j) % 8192 : Nat) : Int)) (e22 : τ' 22 = fun i : Int => if i = (((h + d) % 8192 : Nat) : Int) then (D : Int) else τ 22 i) (e23 : τ' 23 = fun i : Int => if i = (((h + d) % 8192 : Nat) : Int) then ((wyD S D : Nat) : Int) else τ 23 i) : HT τ' S := by
  obtain ⟨q, hq⟩ : ∃ q, q = (h + d) % 8192 := ⟨_, rfl⟩
  have hq8 : q < 8192 := by omega
  rw [← hq] at e22 e23 hhole
  have a1 : τ' 22 q = D := by rw [e22]; exact if_pos rfl
  have a2 : τ' 23 q = (wyD S D : Nat) := by rw [e23]; exact if_pos rfl
  have b1 : ∀ k : Nat, k ≠ q → τ' 22 k = τ 22 k := fun k hk => by rw [e22]; exact if_neg (by omega)
  have b2 : ∀ k : Nat, k ≠ q → τ' 23 k = τ 23 k := fun k hk => by rw [e23]; exact if_neg (by omega)
  have occ : ∀ k : Nat, 0 ≤ τ 22 k → 0 ≤ τ' 22 k := fun k hk => by
    by_cases c : k = q
    · rw [c, a1]; omega
    · rw [b1 k c]; exact hk
  refine ⟨fun k hk => ?_, fun k k' hk hk' he h0 => ?_, fun k E g hk hkE hg => ?_⟩
  · by_cases c : k = q
    · rw [c]; exact Or.inr ⟨D, hD, a1, a2⟩
    · rw [b1 k c, b2 k c]; exact hT.1 k hk
  · by_cases c : k = q <;> by_cases c' : k' = q
    · omega
    · rw [c, a1, b1 k' c'] at he
      exact absurd he.symm (hno k' hk')
    · rw [c', a1, b1 k c] at he
      exact absurd he (hno k hk)
    · rw [b1 k c, b1 k' c'] at he
      rw [b1 k c] at h0
      exact hT.2.1 k k' hk hk' he h0
  · by_cases c : k = q
    · rw [c, a1] at hkE
      have : D = E := by omega
      subst this
      have : g = h := by omega
      subst this
      exact ⟨d, hd, by omega, fun j hj => occ _ (hocc j hj)⟩
    · rw [b1 k c] at hkE
      obtain ⟨d', x1, x2, x3⟩ := hT.2.2 k E g hk hkE hg
      exact ⟨d', x1, x2, fun j hj => occ _ (x3 j hj)⟩
/-- a hole ahead of it: it isn't there -/
theorem HT_no {τ : St} {S : List GR} {D h d : Nat} (hT : HT τ S) (hh : hF D = h) (hd : d < 8192) (hhole : τ 22 (((h + d) % 8192 : Nat) : Int) < 0) (hne : ∀ j : Nat, j < d → ¬ τ 22 (((h + j) % 8192 : Nat) : Int) = D) : ∀ k : Nat, k < 8192 → ¬ τ 22 k = D := by
  intro k hk he
  obtain ⟨d', x1, x2, x3⟩ := hT.2.2 k D h hk he hh
  rcases Nat.lt_trichotomy d' d with c | c | c
  · exact hne d' c (by rw [← x2]; exact he)
  · rw [← c, ← x2, he] at hhole
    omega
  · have := x3 d c
    omega
theorem NE_rf (S : List GR) (τ : St) (p : Nat) : NE S τ τ p := fun k _ hk hE => Or.inl ⟨k, hk, hE⟩
theorem NE_tr {S : List GR} {a b c : St} {p : Nat} (h1 : NE S a b p) (h2 : NE S b c p) : NE S a c p := fun k E hk hE => by
  rcases h2 k E hk hE with ⟨k', q1, q2⟩ | q
  · exact h1 k' E q1 q2
  · exact Or.inr q
theorem ibit32 {D s : Nat} (hD : D < 2 ^ 31) (hs : s < 31) : i32 (ian (isr D s) 1) = if D.testBit s then 1 else 0 := by
  rw [ibit_ok hD hs]
  split
  · exact k32_1
  · exact k32_0
theorem slot_rng {τ : St} {S : List GR} (hl : S.length ≤ 20) (hT : HT τ S) {k : Nat} (hk : k < 8192) : i32 (τ 22 k) = τ 22 k ∧ (τ 22 k = -1 ∨ 0 ≤ τ 22 k) := by
  have p20 : (2 : Nat) ^ S.length ≤ 2 ^ 20 := Nat.pow_le_pow_right (by decide) hl
  have p20' : (2 : Nat) ^ 20 = 1048576 := by decide
  rcases hT.1 k hk with q | ⟨D, q1, q2, q3⟩
  · rw [q]
    exact ⟨k32_m1, Or.inl rfl⟩
  · have := q1.1
    rw [q2]
    exact ⟨i32_id (by omega) (by omega), Or.inr (by omega)⟩
theorem Mways_ok {S : List GR} (hO : gOk S) (hB : gB S) (hs : gSort S) (hl : S.length ≤ 20) (m : Nat) : ∀ {τ : St} {D : Nat} {Q : Int → St → Prop}, GM τ S → HT τ S → cl S D → S.length - pcS D S.length = m → (∀ τ' : St, frm wyK [] τ τ' → HT τ' S → NE S τ τ' (pcS D S.length) → Q (wyD S D : Nat) τ') → V_M_ways (m + 1) τ D Q := by
  have p := p48
  have p20 : (2 : Nat) ^ S.length ≤ 2 ^ 20 := Nat.pow_le_pow_right (by decide) hl
  have p20' : (2 : Nat) ^ 20 = 1048576 := by decide
  induction m with
  | zero =>
    intro τ D Q hG hT hD hm k
    have hpl := pc_le D S.length
    have hd1 := hD.1
    show B_M_ways (V_M_ways 0) τ D Q
    unfold B_M_ways
    rw [i32_id (x := (D : Int)) (by omega) (by omega)]
    refine Mbits_ok (by omega) ?_
    rw [pc48 hD.1 (by omega), hG.1]
    refine ⟨fun z => absurd (by rw [show pcS D S.length = S.length by omega]) z, fun _ => ?_⟩
    have e : wyD S D = 1 := by
      unfold wyD
      rw [hm]
      rfl
    have := k τ frm.rf hT (NE_rf S τ _)
    rw [e] at this
    exact this
  | succ m ih =>
    intro τ D Q hG hT hD hm k
    have hpl := pc_le D S.length
    have hd1 := hD.1
    obtain ⟨h, hh, hh8⟩ := hF_rng D
    have ew : wyD S D = sumN (wF S m D) S.length := by
      unfold wyD
      rw [hm]
      rfl
    have iD : i32 (D : Int) = D := i32_id (by omega) (by omega)
    show B_M_ways (V_M_ways (m + 1)) τ D Q
    unfold B_M_ways
    rw [iD]
    refine Mbits_ok (by omega) ?_
    rw [pc48 hD.1 (by omega), hG.1, i32_id (x := ((pcS D S.length : Nat) : Int)) (by omega) (by omega), i32_id (x := (S.length : Int)) (by omega) (by omega)]
    refine ⟨fun _ x hx => ?_, fun z => absurd z (by omega)⟩
    have hx' : x = h := by rw [hx]; exact hh
    rw [hx']
    -- found
    have JB : ∀ q : Nat, q < 8192 → τ 22 q = D → J_M_ways_57 D Q (V_M_ways (m + 1)) q τ := by
      intro q hq hqD
      unfold J_M_ways_57
      rw [i32_id (x := (q : Int)) (by omega) (by omega), hqD]
      refine ⟨⟨by omega, by omega⟩, fun z => absurd rfl z, fun _ => ⟨⟨by omega, by omega⟩, ?_⟩⟩
      rcases hT.1 q hq with w | ⟨E, w1, w2, w3⟩
      · omega
      · have : E = D := by omega
        rw [w3, this]
        exact k τ frm.rf hT (NE_rf S τ _)
    -- a hole
    have JA : ∀ d : Nat, d < 8192 → τ 22 (((h + d) % 8192 : Nat) : Int) = -1 → (∀ j : Nat, j < d → ¬ τ 22 (((h + j) % 8192 : Nat) : Int) = D) → J_M_ways_57 D Q (V_M_ways (m + 1)) (((h + d) % 8192 : Nat) : Int) τ := by
      intro d hd hhole hne
      have hno := HT_no hT hh hd (by omega) hne
      unfold J_M_ways_57
      rw [i32_id (x := (((h + d) % 8192 : Nat) : Int)) (by omega) (by omega), hhole, k32_m1, iD]
      refine ⟨⟨by omega, by omega⟩, fun _ => ?_, fun z => absurd z (by omega)⟩
      refine wl2 (fun i y u => ∃ s : Nat, s ≤ S.length ∧ i = s ∧ y = (sumN (wF S m D) s : Nat) ∧ frm wyK [] τ u ∧ HT u S ∧ NE S τ u (pcS D S.length + 1)) (fun i _ _ => (S.length - i).toNat) ⟨0, by omega, rfl, rfl, frm.rf, hT, NE_rf S τ _⟩ ?_
      intro bk i y u hI hb
      obtain ⟨s, hsl, rfl, rfl, uf, uT, uN⟩ := hI
      have uG := GM_wy hG uf
      rw [uG.1, i32_id (x := (s : Int)) (by omega) (by omega), i32_id (x := (S.length : Int)) (by omega) (by omega)]
      refine ⟨fun hc x2 hx2 => ?_, fun hc => ?_⟩
      · have hx2' : x2 = h := by rw [hx2]; exact hh
        rw [hx2']
        have hse : s = S.length := by omega
        rw [hse, ← ew]
        have hno2 : ∀ q : Nat, q < 8192 → ¬ u 22 q = D := fun q hq hqD => by
          rcases uN q D hq hqD with ⟨q', w1, w2⟩ | w
          · exact hno q' w1 w2
          · omega
        obtain ⟨e0, e1, e2⟩ := HT_hole hO hB hs hl uT
        obtain ⟨de, e3, e4⟩ := hole_far (h := h) e1 hh8
        refine ⟨fun n i v => v = u ∧ ∃ d : Nat, d + n = de ∧ i = (((h + d) % 8192 : Nat) : Int) ∧ ∀ j : Nat, j < d → 0 ≤ u 22 (((h + j) % 8192 : Nat) : Int), de, ⟨rfl, 0, by omega, by omega, fun j hj => by omega⟩, ?_⟩
        intro n i v hI2
        obtain ⟨rfl, d2, hdn, rfl, hocc⟩ := hI2
        obtain ⟨r1, r2⟩ := slot_rng hl uT (k := (h + d2) % 8192) (by omega)
        rw [i32_id (x := (((h + d2) % 8192 : Nat) : Int)) (by omega) (by omega), r1]
        refine ⟨⟨by omega, by omega⟩, fun hneg => ⟨⟨by omega, by omega⟩, fun w hw => ⟨⟨by omega, by omega⟩, fun z hz => ?_⟩⟩, fun hpos x3 hx3 => ?_⟩
        · have hm1 : v 22 (((h + d2) % 8192 : Nat) : Int) = -1 := by omega
          have z22 : z 22 = fun i : Int => if i = (((h + d2) % 8192 : Nat) : Int) then (D : Int) else v 22 i := by
            rw [hz, ss_row _ (by decide), hw, ss_self]
          have z23 : z 23 = fun i : Int => if i = (((h + d2) % 8192 : Nat) : Int) then ((wyD S D : Nat) : Int) else v 23 i := by
            rw [hz, ss_self, hw, ss_row _ (by decide)]
          refine k z (uf.tr (by rw [hz, hw]; exact (frm.sk (by decide) (by decide)).tr (frm.sk (by decide) (by decide)))) (HT_ins uT hD hh (by omega) hm1 hno2 hocc z22 z23) (fun q E hq hqE => ?_)
          by_cases c : q = (h + d2) % 8192
          · right
            rw [z22, c] at hqE
            simp only [if_true] at hqE
            have : D = E := by omega
            rw [this]
            exact Nat.le_refl _
          · have hq2 : v 22 q = E := by
              rw [z22] at hqE
              have hn : ¬ (q : Int) = (((h + d2) % 8192 : Nat) : Int) := by omega
              simp only [if_neg hn] at hqE
              exact hqE
            rcases uN q E hq hq2 with w | w
            · exact Or.inl w
            · exact Or.inr (by omega)
        · have hlt : d2 < de := by
            refine Nat.lt_of_le_of_ne (by omega) (fun c => ?_)
            rw [c, ← e4, e2] at hpos
            omega
          refine ⟨n - 1, by omega, rfl, d2 + 1, by omega, ?_, fun j hj => ?_⟩
          · rw [hx3, irm_next (by omega)]
            omega
          · by_cases c : j = d2
            · rw [c]; exact hpos
            · exact hocc j (by omega)
      · have hsl2 : s < S.length := by omega
        have hb31 : D < 2 ^ 31 := by omega
        rw [ibit32 hb31 (by omega)]
        have skip : freeB S D s = false → bk ((s : Int) + 1) (sumN (wF S m D) s : Nat) u := fun hf => hb _ _ _ ⟨s + 1, by omega, by omega, by
          show _ = ((sumN (wF S m D) s + wF S m D s : Nat) : Int)
          rw [show wF S m D s = 0 by unfold wF; rw [hf]; rfl]
          rfl, uf, uT, uN⟩ (by omega)
        cases hbit : D.testBit s with
        | true =>
          refine ⟨fun _ => skip (freeB_no (fun z => ?_)), fun z => absurd z (by decide)⟩
          have := z.1
          rw [show ((s : Int)).toNat = s by omega, hbit] at this
          cases this
        | false =>
          refine ⟨fun z => absurd rfl z, fun _ => ⟨⟨by omega, by omega⟩, ?_⟩⟩
          obtain ⟨g1, g2⟩ := GM_b uG hB (by omega) (a := (s : Int)) (by omega) (by omega)
          rw [g1]
          have iff1 := isub_ok (a := bS S (s : Int)) (b := D) (by omega) hb31
          refine ⟨fun z => skip (freeB_no (fun w => z (iff1.mpr w.2))), fun z => ?_⟩
          have hf : freeB S D s = true := freeB_iff.mpr ⟨by rw [show ((s : Int)).toNat = s by omega]; exact hbit, iff1.mp z⟩
          have h2s : (2 : Nat) ^ s < 2 ^ 31 := Nat.pow_lt_pow_right (by decide) (by omega)
          rw [ish1_ok (by omega), iro_ok hb31 h2s]
          refine ih uG uT (cl_add hD hsl2 hf) (by rw [pc_add hsl2 hbit]; omega) (fun v vf vT vN y hy => ?_)
          rw [pc_add hsl2 hbit] at vN
          refine hb _ _ _ ⟨s + 1, by omega, by omega, ?_, uf.tr vf, vT, NE_tr uN vN⟩ (by omega)
          rw [hy]
          show _ = ((sumN (wF S m D) s + wF S m D s : Nat) : Int)
          have ew2 : wF S m D s = wyD S (D ||| 2 ^ s) := by
            unfold wF wyD
            rw [hf, pc_add hsl2 hbit, show S.length - (pcS D S.length + 1) = m by omega]
            rfl
          rw [ew2]
          rfl
    obtain ⟨e0, e1, e2⟩ := HT_hole hO hB hs hl hT
    obtain ⟨de, e3, e4⟩ := hole_far (h := h) e1 hh8
    refine ⟨fun n i u => u = τ ∧ ∃ d : Nat, d + n = de ∧ i = (((h + d) % 8192 : Nat) : Int) ∧ ∀ j : Nat, j < d → ¬ τ 22 (((h + j) % 8192 : Nat) : Int) = D, de, ⟨rfl, 0, by omega, by omega, fun j hj => by omega⟩, ?_⟩
    intro n i u hI
    obtain ⟨rfl, d, hdn, rfl, hne⟩ := hI
    obtain ⟨r1, r2⟩ := slot_rng hl hT (k := (h + d) % 8192) (by omega)
    rw [i32_id (x := (((h + d) % 8192 : Nat) : Int)) (by omega) (by omega), r1]
    refine ⟨⟨by omega, by omega⟩, fun hneg => JA d (by omega) (by omega) hne, fun hpos => ⟨⟨by omega, by omega⟩, fun heq => JB _ (by omega) heq, fun hneq x3 hx3 => ?_⟩⟩
    have hlt : d < de := by
      refine Nat.lt_of_le_of_ne (by omega) (fun c => ?_)
      rw [c, ← e4, e2] at hpos
      omega
    refine ⟨n - 1, by omega, rfl, d + 1, by omega, ?_, fun j hj => ?_⟩
    · rw [hx3, irm_next (by omega)]
      omega
    · by_cases c : j = d
      · rw [c]; exact hneq
      · exact hne j (by omega)
theorem Mforgets_ok {τ : St} {S : List GR} {Q : St → Prop} (k : ∀ τ' : St, frm wyK [] τ τ' → HT τ' S → Q τ') : V_M_forgets τ Q := by
  unfold V_M_forgets
  refine wl1 (fun i u => ∃ n : Nat, n ≤ 8192 ∧ i = n ∧ frm wyK [] τ u ∧ ∀ a : Nat, a < n → u 22 a = -1) (fun i _ => (8192 - i).toNat) ⟨0, by omega, rfl, frm.rf, fun a ha => by omega⟩ ?_
  intro bk i u hI hb
  obtain ⟨n, hn, rfl, f, ha⟩ := hI
  rw [i32_id (x := (n : Int)) (by omega) (by omega)]
  refine ⟨fun hc => ?_, fun hc => ⟨⟨by omega, by omega⟩, fun v hv => hb _ _ ⟨n + 1, by omega, by omega, f.tr (by rw [hv]; exact frm.sk (by decide) (by decide)), fun a ha' => ?_⟩ (by omega)⟩⟩
  · have e : ∀ a : Nat, a < 8192 → u 22 a = -1 := fun a h => ha a (by omega)
    exact k u f ⟨fun a h => Or.inl (e a h), fun a b h _ _ h0 => (by rw [e a h] at h0; omega), fun a D g h hD _ => (by rw [e a h] at hD; omega)⟩
  · rw [hv, ss_self]
    by_cases c : a = n
    · rw [c]; simp
    · have : ¬ (a : Int) = (n : Int) := by omega
      simp only [if_neg this]
      exact ha a (by omega)

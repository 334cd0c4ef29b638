-- RANK
def isRk (S : List GR) (T : Nat → Int) : Nat → Nat → Nat → Prop
  | 0, D, n => D = 0 ∧ n = 0
  | k + 1, D', n' => ∃ D n s : Nat, isRk S T k D n ∧ T k = s ∧ s < S.length ∧ freeB S D s = true ∧ D' = D ||| 2 ^ s ∧ n' = n + sumN (wF S (S.length - (k + 1)) D) s
theorem isRk_uq {S : List GR} {T : Nat → Int} (k : Nat) : ∀ {D n D' n' : Nat}, isRk S T k D n → isRk S T k D' n' → D = D' ∧ n = n' := by
  induction k with
  | zero =>
    intro D n D' n' h h'
    exact ⟨by rw [h.1, h'.1], by rw [h.2, h'.2]⟩
  | succ k ih =>
    intro D n D' n' h h'
    obtain ⟨E, q, s, a1, a2, a3, a4, a5, a6⟩ := h
    obtain ⟨E', q', s', b1, b2, b3, b4, b5, b6⟩ := h'
    obtain ⟨c1, c2⟩ := ih a1 b1
    subst c1
    subst c2
    have : s = s' := by omega
    subst this
    exact ⟨by rw [a5, b5], by rw [a6, b6]⟩
theorem isRk_pre {S : List GR} {T : Nat → Int} (k j : Nat) : ∀ {D n : Nat}, isRk S T (k + j) D n → ∃ D' n', isRk S T k D' n' := by
  induction j with
  | zero => intro D n h; exact ⟨D, n, h⟩
  | succ j ih =>
    intro D n h
    obtain ⟨E, q, s, a1, -⟩ := h
    exact ih a1
def rkR (S : List GR) (T : Nat → Int) (res : Int) : Prop := (∃ D n : Nat, isRk S T S.length D n ∧ res = n) ∨ (res = -1 ∧ ∃ k D n : Nat, k < S.length ∧ isRk S T k D n ∧ ∀ s : Nat, s < S.length → T k = s → freeB S D s = false)
theorem rkR_uq {S : List GR} {T : Nat → Int} {a b : Int} (h : rkR S T a) (h' : rkR S T b) : a = b := by
  have no : ∀ D n k D' n' : Nat, isRk S T S.length D n → k < S.length → isRk S T k D' n' → (∀ s : Nat, s < S.length → T k = s → freeB S D' s = false) → False := by
    intro D n k D' n' h1 hk h2 h3
    obtain ⟨j, hj⟩ : ∃ j, S.length = (k + 1) + j := ⟨S.length - (k + 1), by omega⟩
    have h1' : isRk S T ((k + 1) + j) D n := by rw [← hj]; exact h1
    obtain ⟨E, m, hE⟩ := isRk_pre (k + 1) j h1'
    obtain ⟨E2, q, s, a1, a2, a3, a4, a5, a6⟩ := hE
    obtain ⟨c1, -⟩ := isRk_uq k a1 h2
    subst c1
    have := h3 s a3 a2
    rw [a4] at this
    cases this
  rcases h with ⟨D, n, h1, h2⟩ | ⟨h1, k, D, n, h2, h3, h4⟩ <;> rcases h' with ⟨D', n', g1, g2⟩ | ⟨g1, k', D', n', g2, g3, g4⟩
  · rw [h2, g2, (isRk_uq _ h1 g1).2]
  · exact (no _ _ _ _ _ h1 g2 g3 g4).elim
  · exact (no _ _ _ _ _ g1 h2 h3 h4).elim
  · rw [h1, g1]
theorem wF_40 {S : List GR} (hO : gOk S) (hB : gB S) (hs : gSort S) (hl : S.length ≤ 20) {m D s : Nat} (hm : m ≤ 20) (hD : cl S D) (hsl : s < S.length) : wF S m D s ≤ 1099511627776 := by
  unfold wF
  cases hf : freeB S D s with
  | false => exact Nat.zero_le _
  | true => exact wyS_40 hO hB hs hl hm (cl_lpre hO hB hs (cl_add hD hsl hf))
theorem wF_sum {S : List GR} (hO : gOk S) (hB : gB S) (hs : gSort S) (hl : S.length ≤ 20) {m D s : Nat} (hm : m ≤ 20) (hD : cl S D) (hsl : s ≤ S.length) : sumN (wF S m D) s ≤ 1099511627776 * 20 := by
  have h1 := sumN_le (f := wF S m D) (c := 1099511627776) s (fun i hi => wF_40 hO hB hs hl hm hD (by omega))
  have h2 : 1099511627776 * s ≤ 1099511627776 * 20 := Nat.mul_le_mul_left _ (by omega)
  omega
theorem isRk_ok {S : List GR} {T : Nat → Int} (hO : gOk S) (hB : gB S) (hs : gSort S) (hl : S.length ≤ 20) (k : Nat) (hk : k ≤ S.length) : ∀ {D n : Nat}, isRk S T k D n → cl S D ∧ pcS D S.length = k ∧ n ≤ 1099511627776 * 20 * k := by
  induction k with
  | zero =>
    intro D n h
    obtain ⟨rfl, rfl⟩ := h
    exact ⟨cl_0 S, pc_0 _, Nat.zero_le _⟩
  | succ k ih =>
    intro D n h
    obtain ⟨E, q, s, a1, a2, a3, a4, a5, a6⟩ := h
    obtain ⟨i1, i2, i3⟩ := ih (by omega) a1
    have hw := wF_sum hO hB hs hl (m := S.length - (k + 1)) (by omega) i1 (s := s) (by omega)
    subst a5
    refine ⟨cl_add i1 a3 a4, by rw [pc_add a3 (fr_bits a4).1, i2], ?_⟩
    rw [a6, Nat.mul_succ]
    omega
theorem rkR_rng {S : List GR} {T : Nat → Int} (hO : gOk S) (hB : gB S) (hs : gSort S) (hl : S.length ≤ 20) {res : Int} (h : rkR S T res) : -1 ≤ res ∧ res ≤ 1099511627776 * 400 := by
  rcases h with ⟨D, n, h1, h2⟩ | ⟨h1, -⟩
  · have := (isRk_ok hO hB hs hl S.length (Nat.le_refl _) h1).2.2
    have h3 : 1099511627776 * 20 * S.length ≤ 1099511627776 * 20 * 20 := Nat.mul_le_mul_left _ hl
    omega
  · omega
theorem numberOf_ok {σ : St} {S : List GR} {T : Nat → Int} {sh : Nat} {Q : Int → St → Prop} (hG : GC σ S) (hO : gOk S) (hB : gB S) (hs : gSort S) (hw : WY σ S) (hsz : σ sh 1 = S.length) (hT : ∀ k : Nat, k < 60 → σ (sh + 1) k = T k ∧ i64 (T k) = T k) (k : ∀ res, rkR S T res → Q res σ) : V_Ways_numberOf sh σ Q := by
  have p := p48
  obtain ⟨hl, st, w1, w2⟩ := hw
  have p20 : (2 : Nat) ^ S.length ≤ 2 ^ 20 := Nat.pow_le_pow_right (by decide) hl
  have p20' : (2 : Nat) ^ 20 = 1048576 := by decide
  have iL : i32 (S.length : Int) = S.length := i32_id (by omega) (by omega)
  unfold V_Ways_numberOf
  rw [hsz, hG.1]
  refine ⟨fun _ => ?_, fun z => absurd rfl z⟩
  refine wl4 (fun x8 x7 x5 x3 u => u = σ ∧ ∃ q D n : Nat, q ≤ S.length ∧ x8 = q ∧ x7 = (stOf S st D : Nat) ∧ x5 = D ∧ x3 = n ∧ isRk S T q D n) (fun x8 _ _ _ _ => ((S.length : Int) - x8).toNat) ⟨rfl, 0, 0, 0, by omega, rfl, by rw [st_0]; rfl, rfl, rfl, rfl, rfl⟩ ?_
  intro bk x8 x7 x5 x3 u hI hb
  obtain ⟨rfl, q, D, n, hq, rfl, rfl, rfl, rfl, hrk⟩ := hI
  obtain ⟨c1, c2, c3⟩ := isRk_ok hO hB hs hl q hq hrk
  have hd1 := c1.1
  rw [hsz, iL, i32_id (x := (q : Int)) (by omega) (by omega)]
  refine ⟨fun hc => k _ (Or.inl ⟨D, n, by rw [show S.length = q by omega]; exact hrk, rfl⟩), fun hc => ⟨⟨by omega, by omega⟩, fun x9 hx9 => ?_⟩⟩
  obtain ⟨t1, t2⟩ := hT q (by omega)
  rw [t1] at hx9
  rw [hx9, t2, hG.1, iL]
  refine ⟨fun hn => k _ (Or.inr ⟨rfl, q, D, n, by omega, hrk, fun s _ hs' => by omega⟩), fun hp => ⟨fun hge => k _ (Or.inr ⟨rfl, q, D, n, by omega, hrk, fun s _ hs' => by omega⟩), fun hlt => ?_⟩⟩
  obtain ⟨s, hse⟩ : ∃ s : Nat, T q = s := ⟨(T q).toNat, by omega⟩
  rw [hse] at hlt ⊢
  have hsl : s < S.length := by omega
  obtain ⟨m, hm⟩ : ∃ m, m + 1 = S.length - q := ⟨S.length - q - 1, by omega⟩
  have hm' : m + 1 = S.length - pcS D S.length := by omega
  refine isFree_ok hG hB (by omega) (by omega) (by omega) (by omega) (fun hf => ⟨fun _ => ?_, fun z => absurd z n10⟩) (fun hf => ⟨fun z => absurd z00 z, fun _ => k _ (Or.inr ⟨rfl, q, D, n, by omega, hrk, fun s' _ hs' => ?_⟩)⟩)
  rotate_left
  · have : s' = s := by omega
    rw [this]
    exact freeB_no hf
  have hfb := freeB_iff.mpr hf
  have hnb := (fr_bits hfb).1
  rw [i32_id (x := (s : Int)) (by omega) (by omega)]
  refine wl2 (fun x12 y3 v => v = u ∧ ∃ t : Nat, t ≤ s ∧ x12 = t ∧ y3 = ((n + sumN (wF S m D) t : Nat) : Int)) (fun x12 _ _ => ((s : Int) - x12).toNat) ⟨rfl, 0, by omega, rfl, rfl⟩ ?_
  intro bk2 x12 y3 v hI2 hb2
  obtain ⟨rfl, t, ht, rfl, rfl⟩ := hI2
  rw [i32_id (x := (t : Int)) (by omega) (by omega)]
  refine ⟨fun hd z5 hz5 => ?_, fun hd => ?_⟩
  · have hts : t = s := by omega
    subst hts
    have hp2 : (2 : Nat) ^ t < 2 ^ 48 := Nat.pow_lt_pow_right (by decide) (by omega)
    rw [lsh1_ok (by omega), lro_ok (by omega) (by omega)] at hz5
    refine stride_ok hG hO (by omega) w1 hsl (fun z7 hz7 => ?_)
    refine hb _ _ _ _ _ ⟨rfl, q + 1, D ||| 2 ^ t, n + sumN (wF S m D) t, by omega, by omega, by rw [hz7, st_add hsl hnb]; omega, hz5, rfl, D, n, t, hrk, hse, hsl, hfb, rfl, ?_⟩ (by omega)
    rw [show S.length - (q + 1) = m by omega]
  · have htl : t < S.length := by omega
    refine isFree_ok hG hB (by omega) (by omega) (by omega) (by omega) (fun hf2 => ⟨fun z => absurd z n10, fun _ => ?_⟩) (fun hf2 => ⟨fun _ => hb2 _ _ _ ⟨rfl, t + 1, by omega, by omega, ?_⟩ (by omega), fun z => absurd z00 z⟩)
    · have hfb2 := freeB_iff.mpr hf2
      have hnb2 := (fr_bits hfb2).1
      have cl2 := cl_add c1 htl hfb2
      obtain ⟨u1, u2⟩ := w2 _ (cl_lpre hO hB hs cl2)
      refine stride_ok hG hO (by omega) w1 htl ?_
      refine countOf_ok (x := stOf S st (D ||| 2 ^ t)) (by rw [st_add htl hnb2]; omega) u1 (fun z3 hz3 => ?_)
      refine hb2 _ _ _ ⟨rfl, t + 1, by omega, by omega, ?_⟩ (by omega)
      rw [hz3, u2]
      have ew' : wyS S (S.length - pcS (D ||| 2 ^ t) S.length) (D ||| 2 ^ t) = wF S m D t := (wF_D htl hfb2 hm').symm
      rw [ew']
      show _ = ((n + (sumN (wF S m D) t + wF S m D t) : Nat) : Int)
      omega
    · show _ = ((n + (sumN (wF S m D) t + wF S m D t) : Nat) : Int)
      rw [show wF S m D t = 0 by unfold wF; rw [freeB_no hf2]; rfl]
      rfl
theorem MrankOf_ok {τ : St} {S : List GR} {T : Nat → Int} {a1 : Int} {Q : Int → St → Prop} (hG : GM τ S) (hO : gOk S) (hB : gB S) (hs : gSort S) (hl : S.length ≤ 20) (h1 : 0 ≤ a1) (h2 : a1 < 4) (hsz : τ 25 a1 = S.length) (hT : ∀ k : Nat, k < 60 → τ 26 (60 * a1 + k) = T k ∧ i64 (T k) = T k) (k : ∀ (res : Int) (τ' : St), rkR S T res → frm wyK [] τ τ' → Q res τ') : V_M_rankOf τ a1 Q := by
  have p := p48
  have p20 : (2 : Nat) ^ S.length ≤ 2 ^ 20 := Nat.pow_le_pow_right (by decide) hl
  have p20' : (2 : Nat) ^ 20 = 1048576 := by decide
  have iL : i32 (S.length : Int) = S.length := i32_id (by omega) (by omega)
  unfold V_M_rankOf
  rw [i32_id (x := a1) (by omega) (by omega), hsz, hG.1]
  refine ⟨⟨h1, h2⟩, fun _ => ?_, fun z => absurd rfl z⟩
  refine Mforgets_ok (S := S) (fun t0 f0 T0 => ?_)
  refine wl3 (fun x5 x4 x2 u => ∃ q D n : Nat, q ≤ S.length ∧ x5 = q ∧ x4 = D ∧ x2 = n ∧ isRk S T q D n ∧ frm wyK [] τ u ∧ HT u S) (fun x5 _ _ _ => ((S.length : Int) - x5).toNat) ⟨0, 0, 0, by omega, rfl, rfl, rfl, ⟨rfl, rfl⟩, f0, T0⟩ ?_
  intro bk x5 x4 x2 u hI hb
  obtain ⟨q, D, n, hq, rfl, rfl, rfl, hrk, uf, uT⟩ := hI
  obtain ⟨c1, c2, c3⟩ := isRk_ok hO hB hs hl q hq hrk
  have hd1 := c1.1
  have hb31 : D < 2 ^ 31 := by omega
  have uG := GM_wy hG uf
  have u26 : u 26 = τ 26 := uf.1 26 (by decide) (by decide)
  rw [uG.1, iL, i32_id (x := (q : Int)) (by omega) (by omega), i32_id (x := 60 * a1 + (q : Int)) (by omega) (by omega)]
  refine ⟨fun hc => k _ u (Or.inl ⟨D, n, by rw [show S.length = q by omega]; exact hrk, rfl⟩) uf, fun hc => ⟨⟨by omega, by omega⟩, fun x6 hx6 => ?_⟩⟩
  obtain ⟨t1, t2⟩ := hT q (by omega)
  rw [u26, t1] at hx6
  rw [hx6]
  refine MisStitch_ok uG (by omega) t2 (fun hr => ⟨fun z => absurd z n10, fun _ => ?_⟩) (fun hr => ⟨fun _ => k _ u (Or.inr ⟨rfl, q, D, n, by omega, hrk, fun s h3 hs' => absurd ⟨by omega, by omega⟩ hr⟩) uf, fun z => absurd z00 z⟩)
  obtain ⟨s, hse⟩ : ∃ s : Nat, T q = s := ⟨(T q).toNat, by omega⟩
  rw [hse] at hr ⊢
  have hsl : s < S.length := by omega
  obtain ⟨m, hm⟩ : ∃ m, m + 1 = S.length - q := ⟨S.length - q - 1, by omega⟩
  have hm' : m + 1 = S.length - pcS D S.length := by omega
  have notf : freeB S D s = false → Q (-1) u := fun hf => k _ u (Or.inr ⟨rfl, q, D, n, by omega, hrk, fun s' _ hs' => by
    have : s' = s := by omega
    rw [this]
    exact hf⟩) uf
  rw [ibit32 hb31 (by omega), i32_id (x := (s : Int)) (by omega) (by omega), i64_id (x := (s : Int)) (by omega) (by omega)]
  cases hbit : D.testBit s with
  | true =>
    refine ⟨fun _ => notf (freeB_no (fun z => ?_)), fun z => absurd rfl z⟩
    have := z.1
    rw [show ((s : Int)).toNat = s by omega, hbit] at this
    cases this
  | false =>
    refine ⟨fun z => absurd z (by decide), fun _ => ⟨⟨by omega, by omega⟩, ?_⟩⟩
    obtain ⟨g1, g2⟩ := GM_b uG hB (by omega) (a := (s : Int)) (by omega) (by omega)
    rw [g1]
    have iff1 := isub_ok (a := bS S (s : Int)) (b := D) (by omega) hb31
    refine ⟨fun z => ?_, fun z => notf (freeB_no (fun w => z (iff1.mpr w.2)))⟩
    have hf : freeB S D s = true := freeB_iff.mpr ⟨by rw [show ((s : Int)).toNat = s by omega]; exact hbit, iff1.mp z⟩
    refine wl2 (fun x8 y2 v => ∃ t : Nat, t ≤ s ∧ x8 = t ∧ y2 = ((n + sumN (wF S m D) t : Nat) : Int) ∧ frm wyK [] τ v ∧ HT v S) (fun x8 _ _ => ((s : Int) - x8).toNat) ⟨0, by omega, rfl, rfl, uf, uT⟩ ?_
    intro bk2 x8 y2 v hI2 hb2
    obtain ⟨t, ht, rfl, rfl, vf, vT⟩ := hI2
    have vG := GM_wy hG vf
    rw [i32_id (x := (t : Int)) (by omega) (by omega)]
    refine ⟨fun hd z4 hz4 => ?_, fun hd => ?_⟩
    · have hts : t = s := by omega
      subst hts
      have hp2 : (2 : Nat) ^ t < 2 ^ 31 := Nat.pow_lt_pow_right (by decide) (by omega)
      rw [ish1_ok (by omega), iro_ok hb31 hp2] at hz4
      refine hb _ _ _ _ ⟨q + 1, D ||| 2 ^ t, n + sumN (wF S m D) t, by omega, by omega, hz4, rfl, ⟨D, n, t, hrk, hse, hsl, hf, rfl, ?_⟩, vf, vT⟩ (by omega)
      rw [show S.length - (q + 1) = m by omega]
    · have htl : t < S.length := by omega
      have skip : freeB S D t = false → bk2 ((t : Int) + 1) ((n + sumN (wF S m D) t : Nat) : Int) v := fun hf2 => hb2 _ _ _ ⟨t + 1, by omega, by omega, by
        show _ = ((n + (sumN (wF S m D) t + wF S m D t) : Nat) : Int)
        rw [show wF S m D t = 0 by unfold wF; rw [hf2]; rfl]
        rfl, vf, vT⟩ (by omega)
      rw [ibit32 hb31 (by omega)]
      cases hbit2 : D.testBit t with
      | true =>
        refine ⟨fun _ => skip (freeB_no (fun z => ?_)), fun z => absurd z (by decide)⟩
        have := z.1
        rw [show ((t : Int)).toNat = t by omega, hbit2] at this
        cases this
      | false =>
        refine ⟨fun z => absurd rfl z, fun _ => ⟨⟨by omega, by omega⟩, ?_⟩⟩
        obtain ⟨g3, g4⟩ := GM_b vG hB (by omega) (a := (t : Int)) (by omega) (by omega)
        rw [g3]
        have iff2 := isub_ok (a := bS S (t : Int)) (b := D) (by omega) hb31
        refine ⟨fun z => skip (freeB_no (fun w => z (iff2.mpr w.2))), fun z => ?_⟩
        have hf2 : freeB S D t = true := freeB_iff.mpr ⟨by rw [show ((t : Int)).toNat = t by omega]; exact hbit2, iff2.mp z⟩
        have h2t : (2 : Nat) ^ t < 2 ^ 31 := Nat.pow_lt_pow_right (by decide) (by omega)
        have cl2 := cl_add c1 htl hf2
        rw [ish1_ok (by omega), iro_ok hb31 h2t]
        refine ⟨m + 1, by omega, ?_⟩
        refine Mways_ok hO hB hs hl m vG vT cl2 (by rw [pc_add htl hbit2]; omega) (fun w wf wT _ y hy => ?_)
        refine hb2 _ _ _ ⟨t + 1, by omega, by omega, ?_, vf.tr wf, wT⟩ (by omega)
        rw [hy, ← wF_D htl hf2 hm']
        show _ = ((n + (sumN (wF S m D) t + wF S m D t) : Nat) : Int)
        omega

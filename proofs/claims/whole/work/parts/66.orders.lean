-- ORDERS
theorem Rel.wy {σ σ' τ : St} (h : Rel σ τ) (f : cfr 23 28 σ σ') (h1 : σ' 23 0 = 1) (hw : WY σ' (stS (τ 1))) : Rel σ' τ := by
  obtain ⟨a, p1, p2, p3, p4, p5, p6, p7, p8⟩ := h
  have e0 : σ' 0 = σ 0 := f 0 (by omega)
  refine ⟨a.fc (fun k h => f k (by omega)) (by rw [e0]), p1, p2.fr (fun k x y => f k (by omega)), p3.fe (fun k x y => f k (by omega)), p4, p5.fe (fun k x y => f k (by omega)), by rw [e0]; exact p6, ?_, Or.inr ⟨h1, hw⟩⟩
  unfold thR
  rw [e0]
  rcases p7 with q | ⟨q1, q2, q3⟩
  · exact Or.inl q
  · exact Or.inr ⟨q1, q2, q3.fe (fun k x y => f k (by omega))⟩
theorem both_failQ {σ τ : St} (hR : Rel σ τ) {k e : Int} (hk : 0 ≤ k) (hk2 : k < 8) (he : e = -1000000000 - k) {VM : St → (Int → St → Prop) → Prop} (hVM : ∀ Q : Int → St → Prop, V_M_errsLong τ e Q → VM τ Q) : V_P_failLong σ k (fun r σ' => VM τ (fun r' τ' => i64 r = i64 r' ∧ Rel σ' τ')) :=
  failLong_ok hk hk2 (hVM _ (errsLong_ok hk hk2 he ⟨rfl, hR.err hk hk2⟩))
theorem st_0 (S : List GR) (st : Nat → Nat) : stOf S st 0 = 0 := by
  unfold stOf
  exact sumN_0 _ (fun i _ => by rw [Nat.zero_testBit]; rfl)
theorem pc_0 (n : Nat) : pcS 0 n = 0 := sumN_0 _ (fun i _ => by rw [Nat.zero_testBit]; rfl)
theorem WY_0 {σ : St} {S : List GR} (h : WY σ S) : σ 24 0 = (wyD S 0 : Nat) := by
  obtain ⟨hl, st, h1, h2⟩ := h
  have := (h2 0 ⟨Nat.two_pow_pos _, fun a b _ _ _ hb => by rw [Nat.zero_testBit] at hb; cases hb⟩).2
  rw [st_0] at this
  exact this
theorem op_orders {σ τ : St} (hR : Rel σ τ) : V_P_orders σ (fun r σ' => V_M_orders τ (fun r' τ' => i64 r = i64 r' ∧ Rel σ' τ')) := by
  obtain ⟨p1, p2, p3, p4, p5, p6, p7, p8⟩ := hR.2
  obtain ⟨o1, o2, o3, o4⟩ := stS_ok p1
  unfold V_P_orders
  rw [p3.1, i32_id (x := ((stS (τ 1)).length : Int)) (by omega) (by omega)]
  refine ⟨fun hc => ?_, fun hc => ?_⟩
  · refine reckon_ok p1 p3 (by omega) p8 (fun σ' f h1 hw => ?_)
    have hR' := hR.wy f h1 hw
    unfold V_M_orders
    rw [p4.1, i32_id (x := ((stS (τ 1)).length : Int)) (by omega) (by omega)]
    refine ⟨fun _ => ?_, fun z => absurd z (by omega)⟩
    refine Mforgets_ok (S := stS (τ 1)) (fun t1 f1 T1 => ⟨(stS (τ 1)).length + 1, by omega, ?_⟩)
    refine Mways_ok o1 o3 o4 (by omega) _ (D := 0) (GM_wy p4 f1) T1 (cl_0 _) (by rw [pc_0]; omega) (fun t2 f2 T2 _ => ?_)
    rw [WY_0 hw]
    exact ⟨rfl, hR'.fm ((f1.tr f2).mono (by decide) (by decide))⟩
  · refine both_failQ (e := -1000000004) hR (by decide) (by decide) (by decide) (VM := fun τ Q => V_M_orders τ Q) (fun Q hQ => ?_)
    unfold V_M_orders
    rw [p4.1, i32_id (x := ((stS (τ 1)).length : Int)) (by omega) (by omega)]
    exact ⟨fun z => absurd z (by omega), fun _ => hQ⟩
-- ORDER
def isPk (S : List GR) (m D r s r' : Nat) : Prop := s < S.length ∧ freeB S D s = true ∧ sumN (wF S m D) s + r' = r ∧ r' < wF S m D s
theorem sumN_mono (f : Nat → Nat) {a b : Nat} (h : a ≤ b) : sumN f a ≤ sumN f b := by
  induction b with
  | zero => rw [show a = 0 by omega]; exact Nat.le_refl _
  | succ b ih =>
    by_cases c : a = b + 1
    · rw [c]; exact Nat.le_refl _
    · have := ih (by omega)
      show _ ≤ sumN f b + f b
      omega
theorem isPk_uq {S : List GR} {m D r s s' r1 r2 : Nat} (h : isPk S m D r s r1) (h' : isPk S m D r s' r2) : s = s' ∧ r1 = r2 := by
  obtain ⟨a1, a2, a3, a4⟩ := h
  obtain ⟨b1, b2, b3, b4⟩ := h'
  rcases Nat.lt_trichotomy s s' with c | c | c
  · have : sumN (wF S m D) (s + 1) ≤ sumN (wF S m D) s' := sumN_mono _ c
    have e : sumN (wF S m D) (s + 1) = sumN (wF S m D) s + wF S m D s := rfl
    omega
  · subst c
    exact ⟨rfl, by omega⟩
  · have : sumN (wF S m D) (s' + 1) ≤ sumN (wF S m D) s := sumN_mono _ c
    have e : sumN (wF S m D) (s' + 1) = sumN (wF S m D) s' + wF S m D s' := rfl
    omega
def isOr (S : List GR) (r0 : Nat) : Nat → Nat → Nat → Nat → Prop
  | 0, D, r, _ => D = 0 ∧ r = r0
  | k + 1, D', r', s => ∃ D r l, isOr S r0 k D r l ∧ isPk S (S.length - (k + 1)) D r s r' ∧ D' = D ||| 2 ^ s
theorem isOr_uq {S : List GR} {r0 : Nat} (k : Nat) : ∀ {D r l D' r' l' : Nat}, isOr S r0 k D r l → isOr S r0 k D' r' l' → D = D' ∧ r = r' ∧ (0 < k → l = l') := by
  induction k with
  | zero =>
    intro D r l D' r' l' h h'
    exact ⟨by rw [h.1, h'.1], by rw [h.2, h'.2], fun z => by omega⟩
  | succ k ih =>
    intro D r l D' r' l' h h'
    obtain ⟨E, q, m, a1, a2, a3⟩ := h
    obtain ⟨E', q', m', b1, b2, b3⟩ := h'
    obtain ⟨c1, c2, -⟩ := ih a1 b1
    subst c1
    subst c2
    obtain ⟨d1, d2⟩ := isPk_uq a2 b2
    subst d1
    exact ⟨by rw [a3, b3], d2, fun _ => rfl⟩
theorem isOr_ok {S : List GR} {r0 : Nat} (h0 : r0 < wyD S 0) (k : Nat) (hk : k ≤ S.length) : ∀ {D r l : Nat}, isOr S r0 k D r l → cl S D ∧ pcS D S.length = k ∧ r < wyS S (S.length - k) D := by
  induction k with
  | zero =>
    intro D r l h
    obtain ⟨rfl, rfl⟩ := h
    unfold wyD at h0
    rw [pc_0] at h0
    exact ⟨cl_0 S, pc_0 _, h0⟩
  | succ k ih =>
    intro D r l h
    obtain ⟨E, q, m, a1, a2, a3⟩ := h
    obtain ⟨i1, i2, i3⟩ := ih (by omega) a1
    obtain ⟨b1, b2, b3, b4⟩ := a2
    subst a3
    refine ⟨cl_add i1 b1 b2, by rw [pc_add b1 (fr_bits b2).1, i2], ?_⟩
    unfold wF at b4
    rw [b2] at b4
    exact b4
/-- the class's counts, as WY has them -/
theorem stride_ok {σ : St} {S : List GR} {st : Nat → Nat} {s : Nat} {Q : Int → St → Prop} (hG : GC σ S) (hO : gOk S) (hl : S.length ≤ 48) (h1 : ∀ l : Nat, l < 4 → σ 26 l = st l) (hs : s < S.length) (q : Q (st (lnS S s) : Nat) σ) : V_Ways_strideOf σ s Q := by
  have hg := ln_lt hO hs
  unfold V_Ways_strideOf
  rw [i32_id (x := (s : Int)) (by omega) (by omega), (GC_at hG (s := (s : Int)) (by omega) (by omega)).1, idv2 hg.2.1 hg.2.2.1]
  have e : ((((gS S (s : Int)).toNat / 2 : Nat)) : Int) = ((lnS S s : Nat) : Int) := rfl
  rw [e, i32_id (x := ((lnS S s : Nat) : Int)) (by omega) (by omega), h1 _ hg.1]
  exact ⟨⟨by omega, by omega⟩, ⟨by omega, by omega⟩, q⟩
theorem wF_D {S : List GR} {m D s : Nat} (hs : s < S.length) (hf : freeB S D s = true) (hm : m + 1 = S.length - pcS D S.length) : wF S m D s = wyD S (D ||| 2 ^ s) := by
  unfold wF wyD
  rw [hf, pc_add hs (fr_bits hf).1, show S.length - (pcS D S.length + 1) = m by omega]
  rfl
theorem stitchOf_ok {σ : St} {S : List GR} {r0 i : Nat} {Q : Int → St → Prop} (hG : GC σ S) (hO : gOk S) (hB : gB S) (hs : gSort S) (hw : WY σ S) (h0 : r0 < wyD S 0) (hi : i < S.length) (k : ∀ D r s, isOr S r0 (i + 1) D r s → Q (s : Nat) σ) : V_Ways_stitchOf σ r0 i Q := by
  have p := p48
  obtain ⟨hl, st, w1, w2⟩ := hw
  have p20 : (2 : Nat) ^ S.length ≤ 2 ^ 20 := Nat.pow_le_pow_right (by decide) hl
  have p20' : (2 : Nat) ^ 20 = 1048576 := by decide
  have p40 : ∀ m D, m ≤ 20 → cl S D → wyS S m D ≤ 1099511627776 := fun m D hm hD => wyS_40 hO hB hs hl hm (cl_lpre hO hB hs hD)
  unfold V_Ways_stitchOf
  refine wl5 (fun x11 x10 x9 x7 x5 u => u = σ ∧ ∃ q D r l : Nat, q ≤ i + 1 ∧ x11 = q ∧ x10 = l ∧ x9 = (stOf S st D : Nat) ∧ x7 = D ∧ x5 = r ∧ isOr S r0 q D r l) (fun x11 _ _ _ _ _ => ((i : Int) + 1 - x11).toNat) ⟨rfl, 0, 0, r0, 0, by omega, rfl, rfl, by rw [st_0]; rfl, rfl, rfl, rfl, rfl⟩ ?_
  intro bk x11 x10 x9 x7 x5 u hI hb
  obtain ⟨rfl, q, D, r, l, hq, rfl, rfl, rfl, rfl, rfl, hor⟩ := hI
  rw [i32_id (x := (i : Int)) (by omega) (by omega), i32_id (x := (q : Int)) (by omega) (by omega)]
  refine ⟨fun hc => ?_, fun hc => ?_⟩
  · have : q = i + 1 := by omega
    rw [this] at hor
    exact k _ _ _ hor
  · obtain ⟨c1, c2, c3⟩ := isOr_ok h0 q (by omega) hor
    have hd1 := c1.1
    have hpre := cl_lpre hO hB hs c1
    obtain ⟨m, hm⟩ : ∃ m, m + 1 = S.length - q := ⟨S.length - q - 1, by omega⟩
    rw [← hm, wyS_s] at c3
    have hm' : m + 1 = S.length - pcS D S.length := by omega
    have rb : r < 1099511627776 * 20 := by
      have := p40 (m + 1) D (by omega) c1
      rw [wyS_s] at this
      omega
    refine wl3 (fun x12 y10 y5 v => v = u ∧ ∃ s l2 y : Nat, s ≤ S.length ∧ x12 = s ∧ y10 = l2 ∧ y5 = y ∧ sumN (wF S m D) s + y = r) (fun x12 _ _ _ => (S.length - x12).toNat) ⟨rfl, 0, l, r, by omega, rfl, rfl, rfl, Nat.zero_add _⟩ ?_
    intro bk2 x12 y10 y5 v hI2 hb2
    obtain ⟨rfl, s, l2, y, hsl, rfl, rfl, rfl, hy⟩ := hI2
    rw [hG.1, i32_id (x := (s : Int)) (by omega) (by omega), i32_id (x := (S.length : Int)) (by omega) (by omega)]
    refine ⟨fun hd => ?_, fun hd => ?_⟩
    · exfalso
      have : s = S.length := by omega
      rw [this] at hy
      omega
    · refine isFree_ok hG hB (by omega) (by omega) (by omega) (by omega) (fun hf => ⟨fun z => absurd z n10, fun _ => ?_⟩) (fun hf => ⟨fun _ => ?_, fun z => absurd z00 z⟩)
      · have hfb := freeB_iff.mpr hf
        have hnb := (fr_bits hfb).1
        have hsl2 : s < S.length := by omega
        have cl2 := cl_add c1 hsl2 hfb
        obtain ⟨t1, t2⟩ := w2 _ (cl_lpre hO hB hs cl2)
        have es := st_add (st := st) hsl2 hnb
        have ew := wF_D hsl2 hfb hm'
        refine stride_ok hG hO (by omega) w1 hsl2 ?_
        refine countOf_ok (x := stOf S st (D ||| 2 ^ s)) (by rw [es]; omega) t1 ?_
        rw [t2]
        have ew' : wyS S (S.length - pcS (D ||| 2 ^ s) S.length) (D ||| 2 ^ s) = wF S m D s := ew.symm
        rw [ew']
        have wb : wF S m D s ≤ 1099511627776 := by
          unfold wF
          rw [hfb]
          exact p40 m _ (by omega) cl2
        rw [i64_id (x := ((wF S m D s : Nat) : Int)) (by omega) (by omega), i64_id (x := (y : Int)) (by omega) (by omega)]
        refine ⟨fun hle y' hy' => hb2 _ _ _ _ ⟨rfl, s + 1, s, y - wF S m D s, by omega, by omega, rfl, by omega, ?_⟩ (by omega), fun hlt => ?_⟩
        · show sumN (wF S m D) s + wF S m D s + (y - wF S m D s) = r
          omega
        · unfold J_Ways_stitchOf_89
          intro z7 hz7
          have hp2 : (2 : Nat) ^ s < 2 ^ 48 := Nat.pow_lt_pow_right (by decide) (by omega)
          rw [lsh1_ok (by omega), lro_ok (by omega) (by omega)] at hz7
          refine stride_ok hG hO (by omega) w1 hsl2 (fun z9 hz9 => ?_)
          refine hb _ _ _ _ _ _ ⟨rfl, q + 1, D ||| 2 ^ s, y, s, by omega, by omega, rfl, by rw [hz9, es]; omega, hz7, rfl, D, r, l, hor, ⟨hsl2, hfb, ?_, ?_⟩, rfl⟩ (by omega)
          · rw [show S.length - (q + 1) = m by omega]
            exact hy
          · rw [show S.length - (q + 1) = m by omega]
            omega
      · refine hb2 _ _ _ _ ⟨rfl, s + 1, l2, y, by omega, by omega, rfl, rfl, ?_⟩ (by omega)
        show sumN (wF S m D) s + wF S m D s + y = r
        rw [show wF S m D s = 0 by unfold wF; rw [freeB_no hf]; rfl]
        omega

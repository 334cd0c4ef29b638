-- STITCH, AHEAD
theorem GC_b {σ : St} {S : List GR} (hG : GC σ S) (hB : gB S) (hl : S.length ≤ 48) {a : Int} (h1 : 0 ≤ a) (h2 : a < S.length) : σ 21 a = (bS S a : Int) ∧ bS S a < 2 ^ 48 := by
  obtain ⟨hb, x, x1, x2⟩ := bS_ok hB hl h1 h2
  have := hG.2.2 _ x x1
  rw [show ((a.toNat : Nat) : Int) = a by omega] at this
  exact ⟨by rw [this.2.2.2.2, x2], hb⟩
theorem GM_b {τ : St} {S : List GR} (hG : GM τ S) (hB : gB S) (hl : S.length ≤ 48) {a : Int} (h1 : 0 ≤ a) (h2 : a < S.length) : τ 9 a = (bS S a : Int) ∧ bS S a < 2 ^ 48 := by
  obtain ⟨hb, x, x1, x2⟩ := bS_ok hB hl h1 h2
  have := hG.2 _ x x1
  rw [show ((a.toNat : Nat) : Int) = a by omega] at this
  exact ⟨by rw [this.2.2.2.2, x2], hb⟩
theorem GCM_all {σ τ : St} {S : List GR} (hG : GC σ S) (hM : GM τ S) {a : Int} (h1 : 0 ≤ a) (h2 : a < S.length) : σ 17 a = τ 5 a ∧ σ 18 a = τ 6 a ∧ σ 19 a = τ 7 a ∧ σ 20 a = τ 8 a := by
  obtain ⟨x, x1, -⟩ := S_at h1 h2
  have e1 := hG.2.2 _ x x1
  have e2 := hM.2 _ x x1
  rw [show ((a.toNat : Nat) : Int) = a by omega] at e1 e2
  exact ⟨by rw [e1.1, e2.1], by rw [e1.2.1, e2.2.1], by rw [e1.2.2.1, e2.2.2.1], by rw [e1.2.2.2.1, e2.2.2.2.1]⟩
theorem bit01 {m : Nat} {a : Int} (hm : m < 2 ^ 48) (h1 : 0 ≤ a) (h2 : a < 48) : lan (lsr m a) 1 = if m.testBit a.toNat then 1 else 0 := by
  have := p48
  obtain ⟨n, rfl⟩ : ∃ n : Nat, a = n := ⟨a.toNat, by omega⟩
  exact bit_ok (by omega) (by omega)
theorem bit01_64 {m : Nat} {a : Int} (hm : m < 2 ^ 48) (h1 : 0 ≤ a) (h2 : a < 48) : i64 (lan (lsr m a) 1) = if m.testBit a.toNat then 1 else 0 := by
  rw [bit01 hm h1 h2]
  split
  · exact k64_1
  · exact k64_0
theorem leads_ok {σ : St} {S : List GR} {a b : Int} {Q : Int → St → Prop} (hG : GC σ S) (hB : gB S) (hl : S.length ≤ 48) (h1 : 0 ≤ a) (h2 : a < 48) (h3 : 0 ≤ b) (h4 : b < S.length) (hy : (bS S b).testBit a.toNat = true → Q 1 σ) (hn : (bS S b).testBit a.toNat = false → Q 0 σ) : V_Ground_leads σ a b Q := by
  obtain ⟨e, hb⟩ := GC_b hG hB hl h3 h4
  unfold V_Ground_leads
  rw [i32_id (x := b) (by omega) (by omega), e, bit01_64 hb h1 h2]
  refine ⟨⟨by omega, by omega⟩, fun h => hn ?_, fun h => hy ?_⟩
  · cases hc : (bS S b).testBit a.toNat with
    | false => rfl
    | true => rw [hc] at h; exact absurd rfl h
  · cases hc : (bS S b).testBit a.toNat with
    | true => rfl
    | false => rw [hc] at h; exact absurd h (by decide)
def bhF (S : List GR) (a : Int) (s : Nat) : Nat := if (bS S s).testBit a.toNat then 1 else 0
theorem countBehind_ok {σ : St} {S : List GR} {a : Int} {Q : Int → St → Prop} (hG : GC σ S) (hB : gB S) (hl : S.length ≤ 48) (h1 : 0 ≤ a) (h2 : a < 48) (k : Q (sumN (bhF S a) S.length : Nat) σ) : V_Ground_countBehind σ a Q := by
  unfold V_Ground_countBehind
  refine wl2 (fun i y u => u = σ ∧ ∃ n : Nat, n ≤ S.length ∧ i = n ∧ y = (sumN (bhF S a) n : Nat)) (fun i _ _ => (S.length - i).toNat) ⟨rfl, 0, by omega, rfl, rfl⟩ ?_
  intro bk i y u hI hb
  obtain ⟨rfl, n, hn, rfl, rfl⟩ := hI
  rw [hG.1, i32_id (x := (n : Int)) (by omega) (by omega), i32_id (x := (S.length : Int)) (by omega) (by omega)]
  refine ⟨fun hc => ?_, fun hc => ?_⟩
  · have : n = S.length := by omega
    rw [this]
    exact k
  · refine leads_ok hG hB hl h1 h2 (by omega) (by omega) (fun ht => ⟨fun z => absurd z n10, fun _ => hb _ _ _ ⟨rfl, n + 1, by omega, by omega, ?_⟩ (by omega)⟩) (fun ht => ⟨fun _ => hb _ _ _ ⟨rfl, n + 1, by omega, by omega, ?_⟩ (by omega), fun z => absurd z00 z⟩)
    · show _ = ((sumN (bhF S a) n + bhF S a n : Nat) : Int)
      unfold bhF at *
      rw [if_pos ht]
      rfl
    · show _ = ((sumN (bhF S a) n + bhF S a n : Nat) : Int)
      unfold bhF at *
      rw [if_neg (by rw [ht]; decide)]
      rfl
theorem Mbehind_ok {τ : St} {S : List GR} {a : Int} {Q : Int → St → Prop} (hG : GM τ S) (hB : gB S) (hl : S.length ≤ 48) (h1 : 0 ≤ a) (h2 : a < 48) (k : Q (sumN (bhF S a) S.length : Nat) τ) : V_M_behind τ a Q := by
  unfold V_M_behind
  refine wl2 (fun i y u => u = τ ∧ ∃ n : Nat, n ≤ S.length ∧ i = n ∧ y = (sumN (bhF S a) n : Nat)) (fun i _ _ => (S.length - i).toNat) ⟨rfl, 0, by omega, rfl, rfl⟩ ?_
  intro bk i y u hI hb
  obtain ⟨rfl, n, hn, rfl, rfl⟩ := hI
  rw [hG.1, i32_id (x := (n : Int)) (by omega) (by omega), i32_id (x := (S.length : Int)) (by omega) (by omega)]
  refine ⟨fun hc => ?_, fun hc => ⟨⟨by omega, by omega⟩, fun y hy => ?_⟩⟩
  · have : n = S.length := by omega
    rw [this]
    exact k
  · obtain ⟨e, hbb⟩ := GM_b hG hB hl (a := (n : Int)) (by omega) (by omega)
    rw [e, bit01 hbb h1 h2] at hy
    refine hb _ _ _ ⟨rfl, n + 1, by omega, by omega, ?_⟩ (by omega)
    rw [hy]
    show _ = ((sumN (bhF S a) n + bhF S a n : Nat) : Int)
    unfold bhF
    cases (bS S (n : Int)).testBit a.toNat <;> rfl
theorem op_ahead {σ τ : St} (hR : Rel σ τ) {a1 a2 : Int} (r1 : i32 a1 = a1) (r2 : i32 a2 = a2) : V_P_ahead σ a1 a2 (fun r σ' => V_M_ahead τ a1 a2 (fun r' τ' => i32 r = i32 r' ∧ Rel σ' τ')) := by
  obtain ⟨p1, p2, p3, p4, p5, p6, p7, p8⟩ := hR.2
  obtain ⟨o1, o2, o3, o4⟩ := stS_ok p1
  obtain ⟨S, hS⟩ : ∃ S, S = stS (τ 1) := ⟨_, rfl⟩
  rw [← hS] at p3 p4 o2 o3
  have bad : ¬ ((0 ≤ a1 ∧ a1 < S.length) ∧ (0 ≤ a2 ∧ a2 < S.length)) → V_P_fail σ 1 (fun r σ' => V_M_ahead τ a1 a2 (fun r' τ' => i32 r = i32 r' ∧ Rel σ' τ')) := by
    intro hc
    refine both_fail (e := -1000000001) hR (by decide) (by decide) (by decide) (VM := fun τ Q => V_M_ahead τ a1 a2 Q) (fun Q hQ => ?_)
    unfold V_M_ahead
    rw [r1, r2]
    refine MisStitch_ok p4 o2 (i64_of32 r1) (fun h1 => ⟨fun z => absurd z n10, fun _ => ?_⟩) (fun h1 => ⟨fun _ => hQ, fun z => absurd z00 z⟩)
    exact MisStitch_ok p4 o2 (i64_of32 r2) (fun h2 => absurd ⟨h1, h2⟩ hc) (fun h1 => ⟨fun _ => hQ, fun z => absurd z00 z⟩)
  unfold V_P_ahead
  rw [r1, r2]
  refine isStitch_ok p3 o2 (i64_of32 r1) (fun h1 => ⟨fun z => absurd z n10, fun _ => ?_⟩) (fun h1 => ⟨fun _ => bad (fun z => h1 z.1), fun z => absurd z00 z⟩)
  refine isStitch_ok p3 o2 (i64_of32 r2) (fun h2 => ⟨fun _ => ?_, fun z => absurd z n10⟩) (fun h2 => ⟨fun z => absurd z00 z, fun _ => bad (fun z => h2 z.2)⟩)
  have hM : ∀ Q : Int → St → Prop, Q (if (bS S a2).testBit a1.toNat then 1 else 0) τ → V_M_ahead τ a1 a2 Q := by
    intro Q hQ
    unfold V_M_ahead
    rw [r1, r2]
    refine MisStitch_ok p4 o2 (i64_of32 r1) (fun _ => ⟨fun z => absurd z n10, fun _ => ?_⟩) (fun z => absurd h1 z)
    refine MisStitch_ok p4 o2 (i64_of32 r2) (fun _ => ⟨fun z => absurd z n10, fun _ => ⟨⟨by omega, by omega⟩, ?_⟩⟩) (fun z => absurd h2 z)
    obtain ⟨e, hbb⟩ := GM_b p4 o3 o2 h2.1 h2.2
    rw [e, bit01 hbb h1.1 (by omega)]
    exact hQ
  refine leads_ok p3 o3 o2 h1.1 (by omega) h2.1 h2.2 (fun ht => ⟨fun z => absurd z n10, fun _ => hM _ ⟨by rw [ht]; rfl, hR⟩⟩) (fun ht => ⟨fun _ => hM _ ⟨by rw [ht]; rfl, hR⟩, fun z => absurd z00 z⟩)
theorem op_stitch {σ τ : St} (hR : Rel σ τ) {a1 a2 : Int} (r1 : i32 a1 = a1) (r2 : i32 a2 = a2) : V_P_stitch σ a1 a2 (fun r σ' => V_M_stitch τ a1 a2 (fun r' τ' => i32 r = i32 r' ∧ Rel σ' τ')) := by
  obtain ⟨p1, p2, p3, p4, p5, p6, p7, p8⟩ := hR.2
  obtain ⟨o1, o2, o3, o4⟩ := stS_ok p1
  have q7 := p1.2.2.2.2.2.2.1
  obtain ⟨w1, w2, w3⟩ := ws_bits p1 (τ 1 1).toNat (by omega)
  have p4' := p4
  obtain ⟨S, hS⟩ : ∃ S, S = stS (τ 1) := ⟨_, rfl⟩
  rw [← hS] at p3 p4 o2 o3
  unfold V_P_stitch
  rw [r1, r2]
  refine isStitch_ok p3 o2 (i64_of32 r1) (fun hc => ⟨fun _ => ?_, fun z => absurd z n10⟩) (fun hc => ⟨fun z => absurd z00 z, fun _ => ?_⟩)
  rotate_left
  · refine both_fail (e := -1000000001) hR (by decide) (by decide) (by decide) (VM := fun τ Q => V_M_stitch τ a1 a2 Q) (fun Q hQ => ?_)
    unfold V_M_stitch
    rw [r1, r2]
    exact MisStitch_ok p4 o2 (i64_of32 r1) (fun h1 => absurd h1 hc) (fun h1 => ⟨fun z => absurd z00 z, fun _ => hQ⟩)
  obtain ⟨c1, c2⟩ := hc
  obtain ⟨g1, g2, g3, g4⟩ := GCM_all p3 p4 c1 c2
  refine ⟨fun z => ?_, fun z => ?_, fun z => ?_, fun z => ?_, fun z => ?_, fun z => ?_, fun z => ?_, fun z => ?_, fun z => ?_⟩
  · refine ⟨⟨by omega, by omega⟩, ?_⟩
    unfold V_M_stitch
    rw [r1, r2]
    refine MisStitch_ok p4 o2 (i64_of32 r1) (fun _ => ⟨fun _ => ?_, fun z => absurd z n10⟩) (fun z => absurd ⟨c1, c2⟩ z)
    refine ⟨fun y => ?_, fun y => ?_, fun y => ?_, fun y => ?_, fun y => ?_, fun y => ?_, fun y => ?_, fun y => ?_, fun y => ?_⟩ <;> first | (exfalso; omega) | skip
    exact ⟨⟨by omega, by omega⟩, by rw [g1], hR⟩
  · refine ⟨⟨by omega, by omega⟩, ?_⟩
    unfold V_M_stitch
    rw [r1, r2]
    refine MisStitch_ok p4 o2 (i64_of32 r1) (fun _ => ⟨fun _ => ?_, fun z => absurd z n10⟩) (fun z => absurd ⟨c1, c2⟩ z)
    refine ⟨fun y => ?_, fun y => ?_, fun y => ?_, fun y => ?_, fun y => ?_, fun y => ?_, fun y => ?_, fun y => ?_, fun y => ?_⟩ <;> first | (exfalso; omega) | skip
    exact ⟨⟨by omega, by omega⟩, by rw [g2], hR⟩
  · refine ⟨⟨by omega, by omega⟩, ?_⟩
    unfold V_M_stitch
    rw [r1, r2]
    refine MisStitch_ok p4 o2 (i64_of32 r1) (fun _ => ⟨fun _ => ?_, fun z => absurd z n10⟩) (fun z => absurd ⟨c1, c2⟩ z)
    refine ⟨fun y => ?_, fun y => ?_, fun y => ?_, fun y => ?_, fun y => ?_, fun y => ?_, fun y => ?_, fun y => ?_, fun y => ?_⟩ <;> first | (exfalso; omega) | skip
    exact ⟨⟨by omega, by omega⟩, by rw [g3], hR⟩
  · refine ⟨⟨by omega, by omega⟩, ?_⟩
    unfold V_M_stitch
    rw [r1, r2]
    refine MisStitch_ok p4 o2 (i64_of32 r1) (fun _ => ⟨fun _ => ?_, fun z => absurd z n10⟩) (fun z => absurd ⟨c1, c2⟩ z)
    refine ⟨fun y => ?_, fun y => ?_, fun y => ?_, fun y => ?_, fun y => ?_, fun y => ?_, fun y => ?_, fun y => ?_, fun y => ?_⟩ <;> first | (exfalso; omega) | skip
    exact ⟨⟨by omega, by omega⟩, by rw [g4], hR⟩
  · refine ⟨⟨by omega, by omega⟩, ?_⟩
    obtain ⟨e, hbb⟩ := GC_b p3 o3 o2 c1 c2
    rw [e]
    refine bitCount_ok hbb ?_
    unfold V_M_stitch
    rw [r1, r2]
    refine MisStitch_ok p4 o2 (i64_of32 r1) (fun _ => ⟨fun _ => ?_, fun z => absurd z n10⟩) (fun z => absurd ⟨c1, c2⟩ z)
    refine ⟨fun y => ?_, fun y => ?_, fun y => ?_, fun y => ?_, fun y => ?_, fun y => ?_, fun y => ?_, fun y => ?_, fun y => ?_⟩ <;> first | (exfalso; omega) | skip
    refine ⟨⟨by omega, by omega⟩, ?_⟩
    rw [(GM_b p4 o3 o2 c1 c2).1]
    exact Mbits_ok hbb ⟨rfl, hR⟩
  · refine countBehind_ok p3 o3 o2 c1 (by omega) ?_
    unfold V_M_stitch
    rw [r1, r2]
    refine MisStitch_ok p4 o2 (i64_of32 r1) (fun _ => ⟨fun _ => ?_, fun z => absurd z n10⟩) (fun z => absurd ⟨c1, c2⟩ z)
    refine ⟨fun y => ?_, fun y => ?_, fun y => ?_, fun y => ?_, fun y => ?_, fun y => ?_, fun y => ?_, fun y => ?_, fun y => ?_⟩ <;> first | (exfalso; omega) | skip
    exact Mbehind_ok p4 o3 o2 c1 (by omega) ⟨rfl, hR⟩
  · have hM : V_M_stitch τ a1 a2 (fun r' τ' => i32 (if (wsN (τ 1) (τ 1 1).toNat).testBit a1.toNat then 1 else 0) = i32 r' ∧ Rel σ τ') := by
      unfold V_M_stitch
      rw [r1, r2]
      refine MisStitch_ok p4 o2 (i64_of32 r1) (fun _ => ⟨fun _ => ?_, fun z => absurd z n10⟩) (fun z => absurd ⟨c1, c2⟩ z)
      refine ⟨fun y => ?_, fun y => ?_, fun y => ?_, fun y => ?_, fun y => ?_, fun y => ?_, fun y => ?_, fun y => ?_, fun y => ?_⟩ <;> first | (exfalso; omega) | skip
      refine workedSet_ok p1 ?_
      rw [bit01 w2 c1 (by omega)]
      exact ⟨rfl, hR⟩
    rw [p6, w1, bit01_64 w2 c1 (by omega)]
    cases hb : (wsN (τ 1) (τ 1 1).toNat).testBit a1.toNat with
    | true =>
      rw [hb] at hM
      exact ⟨fun h => absurd rfl h, fun _ => hM⟩
    | false =>
      rw [hb] at hM
      exact ⟨fun _ => hM, fun h => absurd h (by decide)⟩
  · have hM : ∀ r : Int, (isfr (τ 1) a1 → r = 1) → (¬ isfr (τ 1) a1 → r = 0) → V_M_stitch τ a1 a2 (fun r' τ' => i32 r = i32 r' ∧ Rel σ τ') := by
      intro r e1 e0
      unfold V_M_stitch
      rw [r1, r2]
      refine MisStitch_ok p4 o2 (i64_of32 r1) (fun _ => ⟨fun _ => ?_, fun z => absurd z n10⟩) (fun z => absurd ⟨c1, c2⟩ z)
      refine ⟨fun y => ?_, fun y => ?_, fun y => ?_, fun y => ?_, fun y => ?_, fun y => ?_, fun y => ?_, fun y => ?_, fun y => ?_⟩ <;> first | (exfalso; omega) | skip
      exact MisFree_ok p1 p4' c1 (by rw [← hS]; exact c2) (fun hf => ⟨fun z => absurd z n10, fun _ => ⟨by rw [e1 hf], hR⟩⟩) (fun hf => ⟨fun _ => ⟨by rw [e0 hf], hR⟩, fun z => absurd z00 z⟩)
    rw [p6, w1]
    refine isFree_ok p3 o3 o2 c1 c2 w2 (fun hf => ⟨fun z => absurd z n10, fun _ => hM 1 (fun _ => rfl) (fun z => absurd ?_ z)⟩) (fun hf => ⟨fun _ => hM 0 (fun z => absurd ?_ hf) (fun _ => rfl), fun z => absurd z00 z⟩)
    · unfold isfr
      rw [← hS]
      exact hf
    · unfold isfr at z
      rw [← hS] at z
      exact z
  · refine both_fail (e := -1000000001) hR (by decide) (by decide) (by decide) (VM := fun τ Q => V_M_stitch τ a1 a2 Q) (fun Q hQ => ?_)
    unfold V_M_stitch
    rw [r1, r2]
    refine MisStitch_ok p4 o2 (i64_of32 r1) (fun _ => ⟨fun _ => ?_, fun z => absurd z n10⟩) (fun z => absurd ⟨c1, c2⟩ z)
    refine ⟨fun y => ?_, fun y => ?_, fun y => ?_, fun y => ?_, fun y => ?_, fun y => ?_, fun y => ?_, fun y => ?_, fun y => ?_⟩ <;> first | (exfalso; omega) | skip
    exact hQ

-- what the relation gives
theorem Rel.pl {σ τ : St} (h : Rel σ τ) : σ 1 0 = τ 1 0 ∧ 2 ≤ τ 1 0 ∧ τ 1 0 ≤ 8 := ⟨h.2.2.1.1, h.2.1.1, h.2.1.2.1⟩
theorem stS_ok {N : Int → Int} (h : planOk N) : gOk (stS N) ∧ (stS N).length ≤ 48 ∧ gB (stS N) ∧ gSort (stS N) := by
  obtain ⟨h1, h2, h3, -⟩ := h
  obtain ⟨a1, a2⟩ := gAll_ok (gaps := (N 0 - 1).toNat) h3 (by omega) 12 (by omega)
  obtain ⟨b1, b2, b3⟩ := gAll_P (gaps := (N 0 - 1).toNat) h3 (by omega) 12 (by omega)
  exact ⟨a1, a2, b1, b2⟩
theorem S_at {S : List GR} {s : Int} (h : 0 ≤ s) (h2 : s < S.length) : ∃ x, S[s.toNat]? = some x ∧ gS S s = x.2.1 ∧ kS S s = x.2.2.1 ∧ rS S s = x.1 ∧ bS S s = x.2.2.2.2.toNat := by
  have hl : s.toNat < S.length := by omega
  refine ⟨S[s.toNat], List.getElem?_eq_getElem hl, ?_, ?_, ?_, ?_⟩
  · unfold gS; rw [List.getElem?_eq_getElem hl]
  · unfold kS; rw [List.getElem?_eq_getElem hl]
  · unfold rS; rw [List.getElem?_eq_getElem hl]
  · unfold bS; rw [List.getElem?_eq_getElem hl]
theorem plan_st {N : Int → Int} (h : planOk N) : stOk N (gS (stS N)) (kS (stS N)) (stS N).length := by
  obtain ⟨a1, a2, _, _⟩ := stS_ok h
  refine ⟨by omega, by omega, fun s q1 q2 => ?_, h.2.2.2.2.1⟩
  obtain ⟨x, e1, e2, e3, e4, e5⟩ := S_at q1 q2
  have := a1 _ x e1
  rw [e2, e3]
  omega
theorem GM_at {τ : St} {S : List GR} (h : GM τ S) {s : Int} (h1 : 0 ≤ s) (h2 : s < S.length) : τ 6 s = gS S s ∧ τ 7 s = kS S s := by
  obtain ⟨x, e1, e2, e3, e4, e5⟩ := S_at h1 h2
  have := h.2 _ x e1
  rw [show ((s.toNat : Nat) : Int) = s by omega] at this
  rw [e2, e3]
  exact ⟨this.2.1, this.2.2.1⟩
theorem GC_at {σ : St} {S : List GR} (h : GC σ S) {s : Int} (h1 : 0 ≤ s) (h2 : s < S.length) : σ 18 s = gS S s ∧ σ 19 s = kS S s := by
  obtain ⟨x, e1, e2, e3, e4, e5⟩ := S_at h1 h2
  have := h.2.2 _ x e1
  rw [show ((s.toNat : Nat) : Int) = s by omega] at this
  rw [e2, e3]
  exact ⟨this.2.1, this.2.2.1⟩
theorem GM_st {τ : St} (hp : planOk (τ 1)) (h : GM τ (stS (τ 1))) : stOk (τ 1) (τ 6) (τ 7) (τ 0 5) := by
  obtain ⟨a1, a2, a3, a4⟩ := plan_st hp
  rw [h.1]
  refine ⟨a1, a2, fun s q1 q2 => ?_, a4⟩
  obtain ⟨e1, e2⟩ := GM_at h q1 q2
  rw [e1, e2]
  exact a3 s q1 q2
theorem Mwork {σ τ : St} {Q : St → Prop} (h : Rel σ τ) (k : ∀ τ', MW τ' (wkA (τ 1)) → frm mwK mwJ τ τ' → Q τ') : V_M_theWork τ Q := by
  obtain ⟨-, p1, -, -, p4, -⟩ := h
  obtain ⟨q1, q2, q3, q4, q5, q6, q7, q8, q9⟩ := p1
  have hp : planOk (τ 1) := ⟨q1, q2, q3, q4, q5, q6, q7, q8, q9⟩
  have hl := (stS_ok hp).2.1
  refine MtheWork_ok (GM_st hp p4) q7 (by omega) (fun i a b => ?_) (fun τ' m f => k τ' ?_ f)
  · have := q9 i.toNat (by omega)
    rw [show ((i.toNat : Nat) : Int) = i by omega] at this
    rw [p4.1]
    exact ⟨this.1, this.2.1⟩
  · have e : awQ (τ 1) (τ 6) (τ 7) (fun i => τ 1 (156 + i)) (τ 1 1).toNat = wkA (τ 1) := awQ_congr _ (fun i hi => by
      have := q9 i (by omega)
      exact GM_at p4 this.1 this.2.1)
    rw [e] at m
    exact m
theorem Mfirst' {σ τ : St} {c : Int} {Q : St → Prop} (h : Rel σ τ) (hc : 0 ≤ c) (hc2 : c ≤ (stS (τ 1)).length) (k : ∀ τ', MW τ' (alA (τ 1) c.toNat) → frm mwK mwJ τ τ' → Q τ') : V_M_first τ c Q := by
  obtain ⟨-, hp, -, -, p4, -⟩ := h
  refine Mfirst_ok (GM_st hp p4) hc (by rw [p4.1]; exact hc2) (fun τ' m f => k τ' ?_ f)
  have e : awQ (τ 1) (τ 6) (τ 7) (fun i => (i : Int)) c.toNat = alA (τ 1) c.toNat := awQ_congr _ (fun i hi => GM_at p4 (by omega) (by omega))
  rw [e] at m
  exact m
theorem mw_sc {τ τ' : St} (f : frm mwK mwJ τ τ') : frm scK scJ τ τ' := f.mono (by decide) (by decide)
theorem wkA_g {N : Int → Int} (h : planOk N) : awG (wkA N) ∧ (wkA N).2.2.length ≤ 768 := by
  have hl := (stS_ok h).2.1
  obtain ⟨q1, q2, q3, q4, q5, q6, q7, q8, q9⟩ := h
  have hp : planOk N := ⟨q1, q2, q3, q4, q5, q6, q7, q8, q9⟩
  have hw : ∀ i, i < (N 1).toNat → 0 ≤ N (156 + (i : Int)) ∧ N (156 + (i : Int)) < (stS N).length := fun i hi => by
    have := q9 i (by omega)
    exact ⟨this.1, this.2.1⟩
  refine ⟨awQ_g (plan_st hp) _ hw, ?_⟩
  have := awQ_len (wk := fun i : Nat => N (156 + (i : Int))) (plan_st hp) (N 1).toNat hw
  show (awQ N (gS (stS N)) (kS (stS N)) (fun i => N (156 + i)) (N 1).toNat).2.2.length ≤ _
  omega
theorem alA_g {N : Int → Int} (h : planOk N) (n : Nat) (hn : n ≤ (stS N).length) : awG (alA N n) ∧ (alA N n).2.2.length ≤ 768 := by
  have hl := (stS_ok h).2.1
  have hw : ∀ i, i < n → 0 ≤ (i : Int) ∧ (i : Int) < (stS N).length := fun i hi => ⟨by omega, by omega⟩
  refine ⟨awQ_g (wk := fun i : Nat => (i : Int)) (plan_st h) _ hw, ?_⟩
  have := awQ_len (wk := fun i : Nat => (i : Int)) (plan_st h) n hw
  show (awQ N (gS (stS N)) (kS (stS N)) (fun i => i) n).2.2.length ≤ _
  omega
-- what is asked
theorem isCell_ok {σ : St} {a1 a2 n : Int} {Q : Int → St → Prop} (r1 : i32 a1 = a1) (r2 : i32 a2 = a2) (hp : σ 1 0 = n) (h2 : 2 ≤ n) (h8 : n ≤ 8) (h1 : 0 ≤ a1 ∧ a1 < 12 ∧ 0 ≤ a2 ∧ a2 < n - 1 → Q 1 σ) (h0 : ¬ (0 ≤ a1 ∧ a1 < 12 ∧ 0 ≤ a2 ∧ a2 < n - 1) → Q 0 σ) : V_P_isCell σ a1 a2 Q := by
  unfold V_P_isCell
  rw [r1, r2, hp, i32_id (x := n - 1) (by omega) (by omega)]
  exact ⟨fun z => h0 (by omega), fun z => ⟨fun z => h0 (by omega), fun z => ⟨fun z => h0 (by omega), fun z => ⟨fun z => h0 (by omega), fun z => h1 (by omega)⟩⟩⟩⟩
theorem isPlaceOf_ok {τ : St} {a1 a2 n : Int} {Q : Int → St → Prop} (r1 : i32 a1 = a1) (r2 : i32 a2 = a2) (hp : τ 1 0 = n) (h2 : 2 ≤ n) (h8 : n ≤ 8) (h1 : 0 ≤ a1 ∧ a1 < 12 ∧ 0 ≤ a2 ∧ a2 < n - 1 → Q 1 τ) (h0 : ¬ (0 ≤ a1 ∧ a1 < 12 ∧ 0 ≤ a2 ∧ a2 < n - 1) → Q 0 τ) : V_M_isPlaceOf τ a1 a2 Q := by
  unfold V_M_isPlaceOf
  rw [r1, r2]
  refine in_ok (i64_of32 r1) k64_0 (i64_id (by decide) (by decide)) (fun z => ⟨fun y => absurd y n10, fun _ => ?_⟩) (fun z => ⟨fun _ => h0 (by omega), fun y => absurd z00 y⟩)
  dsimp only [V_M_gaps]
  rw [hp, show n - 1 - 1 = n - 2 by omega, i32_id (x := n - 2) (by omega) (by omega)]
  exact in_ok (i64_of32 r2) k64_0 (i64_id (by omega) (by omega)) (fun z => ⟨fun y => absurd y n10, fun _ => h1 (by omega)⟩) (fun z => ⟨fun _ => h0 (by omega), fun y => absurd z00 y⟩)
theorem isThread_ok {σ : St} {a1 n : Int} {Q : Int → St → Prop} (r1 : i32 a1 = a1) (hp : σ 1 0 = n) (h2 : 2 ≤ n) (h8 : n ≤ 8) (h1 : 0 ≤ a1 ∧ a1 < 2 * n → Q 1 σ) (h0 : ¬ (0 ≤ a1 ∧ a1 < 2 * n) → Q 0 σ) : V_P_isThread σ a1 Q := by
  unfold V_P_isThread
  rw [r1, hp, i32_id (x := 2 * n) (by omega) (by omega)]
  exact ⟨fun z => h0 (by omega), fun z => ⟨fun z => h0 (by omega), fun z => h1 (by omega)⟩⟩
theorem MisThread_ok {τ : St} {a1 n : Int} {Q : Int → St → Prop} (r1 : i32 a1 = a1) (hp : τ 1 0 = n) (h2 : 2 ≤ n) (h8 : n ≤ 8) (h1 : 0 ≤ a1 ∧ a1 < 2 * n → Q 1 τ) (h0 : ¬ (0 ≤ a1 ∧ a1 < 2 * n) → Q 0 τ) : V_M_isThread τ a1 Q := by
  unfold V_M_isThread
  dsimp only [V_M_threads]
  rw [r1, hp, i32_id (x := 2 * n - 1) (by omega) (by omega)]
  exact in_ok (i64_of32 r1) k64_0 (i64_id (by omega) (by omega)) (fun z => h1 (by omega)) (fun z => h0 (by omega))
theorem isSheet_ok {σ : St} {a1 : Int} {Q : Int → St → Prop} (r1 : i32 a1 = a1) (h1 : 0 ≤ a1 ∧ a1 < 4 → Q 1 σ) (h0 : ¬ (0 ≤ a1 ∧ a1 < 4) → Q 0 σ) : V_P_isSheet σ a1 Q := by
  unfold V_P_isSheet
  rw [r1]
  exact ⟨fun z => h0 (by omega), fun z => ⟨fun z => h0 (by omega), fun z => h1 (by omega)⟩⟩
theorem MisSheet_ok {τ : St} {a1 : Int} {Q : Int → St → Prop} (r1 : i32 a1 = a1) (h1 : 0 ≤ a1 ∧ a1 < 4 → Q 1 τ) (h0 : ¬ (0 ≤ a1 ∧ a1 < 4) → Q 0 τ) : V_M_isSheet τ a1 Q := by
  unfold V_M_isSheet
  rw [r1]
  exact in_ok (i64_of32 r1) k64_0 (i64_id (by decide) (by decide)) (fun z => h1 (by omega)) (fun z => h0 (by omega))
theorem isKind_ok {σ : St} {a1 : Int} {Q : Int → St → Prop} (r1 : i32 a1 = a1) (h1 : 0 ≤ a1 ∧ a1 < 6 → Q 1 σ) (h0 : ¬ (0 ≤ a1 ∧ a1 < 6) → Q 0 σ) : V_P_isKind σ a1 Q := by
  unfold V_P_isKind
  rw [r1]
  exact ⟨fun z => h0 (by omega), fun z => ⟨fun z => h0 (by omega), fun z => h1 (by omega)⟩⟩
theorem isStitch_ok {σ : St} {S : List GR} {a1 : Int} {Q : Int → St → Prop} (hS : GC σ S) (hl : S.length ≤ 48) (r1 : i64 a1 = a1) (h1 : 0 ≤ a1 ∧ a1 < S.length → Q 1 σ) (h0 : ¬ (0 ≤ a1 ∧ a1 < S.length) → Q 0 σ) : V_P_isStitch σ a1 Q := by
  unfold V_P_isStitch
  rw [r1, hS.1, i32_id (x := (S.length : Int)) (by omega) (by omega)]
  exact ⟨fun z => h0 (by omega), fun z => ⟨fun z => h0 (by omega), fun z => h1 (by omega)⟩⟩
theorem MisStitch_ok {τ : St} {S : List GR} {a1 : Int} {Q : Int → St → Prop} (hS : GM τ S) (hl : S.length ≤ 48) (r1 : i64 a1 = a1) (h1 : 0 ≤ a1 ∧ a1 < S.length → Q 1 τ) (h0 : ¬ (0 ≤ a1 ∧ a1 < S.length) → Q 0 τ) : V_M_isStitch τ a1 Q := by
  unfold V_M_isStitch
  rw [hS.1, i32_id (x := (S.length : Int) - 1) (by omega) (by omega)]
  exact in_ok r1 k64_0 (i64_id (by omega) (by omega)) (fun z => h1 (by omega)) (fun z => h0 (by omega))
-- OPS
theorem op_look {σ τ : St} (hR : Rel σ τ) {a1 a2 : Int} (r1 : i32 a1 = a1) (r2 : i32 a2 = a2) : V_P_look σ a1 a2 (fun r σ' => V_M_look τ a1 a2 (fun r' τ' => i32 r = i32 r' ∧ Rel σ' τ')) := by
  obtain ⟨p1, p2, p3⟩ := hR.pl
  unfold V_P_look
  refine isCell_ok r1 r2 p1 p2 p3 (fun hc => ⟨fun _ => ?_, fun z => absurd z n10⟩) (fun hc => ⟨fun z => absurd z00 z, fun _ => ?_⟩)
  · rw [i32_id (x := a1 * 7 + a2) (by omega) (by omega)]
    refine ⟨⟨by omega, by omega⟩, ?_⟩
    unfold V_M_look
    refine isPlaceOf_ok r1 r2 rfl p2 p3 (fun _ => ⟨fun z => absurd z n10, fun _ => ?_⟩) (fun z => absurd hc z)
    unfold V_M_held
    rw [i32_id (x := 2 + 7 * a1 + a2) (by omega) (by omega)]
    refine ⟨⟨by omega, by omega⟩, ?_, hR⟩
    have := hR.2.2.1.2.2.1 (a1 * 7 + a2) (by omega) (by omega)
    rw [show (2 : Int) + (a1 * 7 + a2) = 2 + 7 * a1 + a2 by omega] at this
    rw [this]
  · refine both_fail (e := -1000000001) hR (by decide) (by decide) (by decide) (VM := fun τ Q => V_M_look τ a1 a2 Q) (fun Q hQ => ?_)
    unfold V_M_look
    exact isPlaceOf_ok r1 r2 rfl p2 p3 (fun z => absurd z hc) (fun _ => ⟨fun _ => hQ, fun z => absurd z00 z⟩)
theorem op_told {σ τ : St} (hR : Rel σ τ) {a1 : Int} (r1 : i32 a1 = a1) : V_P_told σ a1 (fun r σ' => V_M_told τ a1 (fun r' τ' => i32 r = i32 r' ∧ Rel σ' τ')) := by
  have bad : ¬ (1 ≤ a1 ∧ a1 ≤ 7) → V_P_fail σ 1 (fun r σ' => V_M_told τ a1 (fun r' τ' => i32 r = i32 r' ∧ Rel σ' τ')) := by
    intro hc
    refine both_fail (e := -1000000001) hR (by decide) (by decide) (by decide) (VM := fun τ Q => V_M_told τ a1 Q) (fun Q hQ => ?_)
    unfold V_M_told
    rw [r1]
    exact in_ok (i64_of32 r1) k64_1 (i64_id (by decide) (by decide)) (fun z => absurd z hc) (fun _ => ⟨fun _ => hQ, fun z => absurd z00 z⟩)
  unfold V_P_told
  rw [r1]
  refine ⟨fun z => bad (by omega), fun z => ⟨fun y => ⟨⟨by omega, by omega⟩, ?_⟩, fun y => bad (by omega)⟩⟩
  unfold V_M_told
  rw [r1]
  refine in_ok (i64_of32 r1) k64_1 (i64_id (by decide) (by decide)) (fun _ => ⟨fun z => absurd z n10, fun _ => ⟨⟨by omega, by omega⟩, ?_, hR⟩⟩) (fun w => absurd ⟨z, y⟩ w)
  rw [hR.1.2.2.1 a1 (by omega) (by omega)]
theorem op_feed {σ τ : St} (hR : Rel σ τ) {a1 : Int} (r1 : i32 a1 = a1) : V_P_feed σ a1 (fun r σ' => V_M_feed τ a1 (fun r' τ' => i32 r = i32 r' ∧ Rel σ' τ')) := by
  have bad : ¬ (0 ≤ a1 ∧ a1 ≤ 255) → V_P_fail σ 1 (fun r σ' => V_M_feed τ a1 (fun r' τ' => i32 r = i32 r' ∧ Rel σ' τ')) := by
    intro hc
    refine both_fail (e := -1000000001) hR (by decide) (by decide) (by decide) (VM := fun τ Q => V_M_feed τ a1 Q) (fun Q hQ => ?_)
    unfold V_M_feed
    rw [r1]
    exact in_ok (i64_of32 r1) k64_0 (i64_id (by decide) (by decide)) (fun z => absurd z hc) (fun _ => ⟨fun z => absurd z00 z, fun _ => hQ⟩)
  obtain ⟨⟨t1, t2, t3, t4⟩, a2, a3, a4⟩ := hR.1
  have et : i32 (τ 0 12) = τ 0 12 := i32_id (by omega) (by omega)
  unfold V_P_feed
  rw [r1, t1, et]
  refine ⟨fun z => bad (by omega), fun z => ⟨fun y => ⟨fun x => ⟨⟨by omega, by omega⟩, fun s3 h3 s4 h4 => ?_⟩, fun x => ?_⟩, fun y => bad (by omega)⟩⟩
  · unfold V_M_feed
    rw [r1]
    refine in_ok (i64_of32 r1) k64_0 (i64_id (by decide) (by decide)) (fun _ => ⟨fun _ => ?_, fun z => absurd z n10⟩) (fun w => absurd ⟨z, y⟩ w)
    rw [et]
    refine ⟨fun _ => ⟨⟨by omega, by omega⟩, fun m3 g3 m4 g4 => ?_⟩, fun w => by omega⟩
    have c3 : s3 53 1 = τ 0 12 := by rw [h3, ss_row _ (by decide), t1]
    have d3 : m3 0 12 = τ 0 12 := by rw [g3, ss_row _ (by decide)]
    have e4 : s4 53 1 = τ 0 12 + 1 := by rw [h4, ss_at, c3]
    have f4 : m4 0 12 = τ 0 12 + 1 := by rw [g4, ss_at, d3]
    refine ⟨by rw [e4, f4], ?_⟩
    have eC : ∀ q, q ≠ 53 → q ≠ 54 → s4 q = σ q := fun q a b => by rw [h4, ss_row _ a, h3, ss_row _ b]
    have eM : ∀ q, q ≠ 0 → q ≠ 10 → m4 q = τ q := fun q a b => by rw [g4, ss_row _ a, g3, ss_row _ b]
    have eJ : ∀ j, j ≠ 12 → m4 0 j = τ 0 j := fun j a => by rw [g4, ss_ne _ _ a, g3, ss_row _ (by decide)]
    refine ⟨⟨⟨by rw [e4, f4], by rw [f4]; omega, by rw [f4]; omega, fun i a b => ?_⟩, fun i hi => ?_, ?_, ?_⟩, ?_⟩
    · rw [h4, ss_row _ (by decide), h3, ss_self, g4, ss_row _ (by decide), g3, ss_self]
      show (if i = τ 0 12 then a1 else σ 54 i) = (if i = τ 0 12 then a1 else τ 10 i) ∧ 0 ≤ (if i = τ 0 12 then a1 else τ 10 i) ∧ (if i = τ 0 12 then a1 else τ 10 i) ≤ 255
      by_cases c : i = τ 0 12
      · rw [if_pos c, if_pos c]
        exact ⟨rfl, z, y⟩
      · rw [if_neg c, if_neg c]
        rw [f4] at b
        exact t4 i a (by omega)
    · rw [eC (57 + 2 * i) (by omega) (by omega), eC (58 + 2 * i) (by omega) (by omega), eM 24 (by decide) (by decide), eM 25 (by decide) (by decide), eM 26 (by decide) (by decide)]
      exact a2 i hi
    · unfold errR
      rw [eC 56 (by decide) (by decide), eM 4 (by decide) (by decide)]
      exact a3
    · unfold imgR
      rw [eC 0 (by decide) (by decide), eJ 3 (by decide), eM 2 (by decide) (by decide)]
      rcases a4 with q | ⟨q1, q2, q3, q4, q5⟩
      · exact Or.inl q
      · exact Or.inr ⟨q1, q2, q3, q4.fr (fun k a b => eC k (by omega) (by omega)), q5.fe (fun k a b => eC k (by omega) (by omega))⟩
    · refine RelP.fm (τ := τ) ?_ (eM 1 (by decide) (by decide)) (eJ 5 (by decide)) (fun k a b => eM k (by omega) (by omega))
      obtain ⟨p1, p2, p3, p4, p5, p6, p7, p8⟩ := hR.2
      refine ⟨p1, p2.fr (fun k a b => eC k (by omega) (by omega)), p3.fe (fun k a b => eC k (by omega) (by omega)), p4, p5.fe (fun k a b => eC k (by omega) (by omega)), by rw [eC 0 (by decide) (by decide)]; exact p6, ?_, ?_⟩
      · unfold thR
        rw [eC 0 (by decide) (by decide)]
        rcases p7 with q | ⟨q1, q2, q3⟩
        · exact Or.inl q
        · exact Or.inr ⟨q1, q2, q3.fe (fun k a b => eC k (by omega) (by omega))⟩
      · unfold wyR
        rw [eC 23 (by decide) (by decide)]
        rcases p8 with q | ⟨q1, q2⟩
        · exact Or.inl q
        · exact Or.inr ⟨q1, q2.fe (fun k a b => eC k (by omega) (by omega))⟩
  · refine both_fail (e := -1000000004) hR (by decide) (by decide) (by decide) (VM := fun τ Q => V_M_feed τ a1 Q) (fun Q hQ => ?_)
    unfold V_M_feed
    rw [r1]
    refine in_ok (i64_of32 r1) k64_0 (i64_id (by decide) (by decide)) (fun _ => ⟨fun _ => ?_, fun z => absurd z n10⟩) (fun w => absurd ⟨z, y⟩ w)
    rw [et]
    exact ⟨fun w => by omega, fun _ => hQ⟩
theorem op_letter {σ τ : St} (hR : Rel σ τ) {a1 a2 : Int} (r1 : i32 a1 = a1) (r2 : i32 a2 = a2) : V_P_letter σ a1 a2 (fun r σ' => V_M_letter τ a1 a2 (fun r' τ' => i32 r = i32 r' ∧ Rel σ' τ')) := by
  have bad : ¬ (0 ≤ a1 ∧ a1 < 6 ∧ 0 ≤ a2 ∧ a2 < τ 1 (86 + 9 * a1)) → V_P_fail σ 1 (fun r σ' => V_M_letter τ a1 a2 (fun r' τ' => i32 r = i32 r' ∧ Rel σ' τ')) := by
    intro hc
    refine both_fail (e := -1000000001) hR (by decide) (by decide) (by decide) (VM := fun τ Q => V_M_letter τ a1 a2 Q) (fun Q hQ => ?_)
    unfold V_M_letter
    rw [r1, r2]
    refine in_ok (i64_of32 r1) k64_0 (i64_id (by decide) (by decide)) (fun z => ⟨fun w => absurd w n10, fun _ => ?_⟩) (fun z => ⟨fun _ => hQ, fun w => absurd z00 w⟩)
    have hw := hR.2.1.2.2.2.2.1 a1 z.1 (by omega)
    rw [i32_id (x := 86 + 9 * a1) (by omega) (by omega), i32_id (x := τ 1 (86 + 9 * a1) - 1) (by have := hw.1; have := hw.2.1; omega) (by have := hw.1; have := hw.2.1; omega)]
    refine ⟨⟨by omega, by omega⟩, in_ok (i64_of32 r2) k64_0 (i64_id (by have := hw.1; have := hw.2.1; omega) (by have := hw.1; have := hw.2.1; omega)) (fun y => absurd (by omega) hc) (fun _ => ⟨fun _ => hQ, fun w => absurd z00 w⟩)⟩
  unfold V_P_letter
  refine isKind_ok r1 (fun hk => ⟨fun w => absurd w n10, fun _ => ?_⟩) (fun hk => ⟨fun _ => bad (by omega), fun w => absurd z00 w⟩)
  have hw := hR.2.1.2.2.2.2.1 a1 hk.1 hk.2
  obtain ⟨e1, e2⟩ := hR.2.2.1.2.2.2.1 a1 hk.1 hk.2
  rw [r1, r2]
  refine ⟨fun z => bad (by omega), fun z => ⟨hk, ?_⟩⟩
  have e1' : σ 4 a1 = τ 1 (86 + 9 * a1) := e1
  rw [e1', i32_id (x := τ 1 (86 + 9 * a1)) (by have := hw.1; have := hw.2.1; omega) (by have := hw.1; have := hw.2.1; omega)]
  refine ⟨fun y => ?_, fun y => bad (by omega)⟩
  have h8 := hw.2.1
  rw [i32_id (x := a1 * 8 + a2) (by omega) (by omega)]
  refine ⟨⟨by omega, by omega⟩, ?_⟩
  have e2' : σ 3 (a1 * 8 + a2) = τ 1 (87 + 9 * a1 + a2) := e2 a2 z (by omega)
  rw [e2']
  unfold V_M_letter
  rw [r1, r2]
  refine in_ok (i64_of32 r1) k64_0 (i64_id (by decide) (by decide)) (fun _ => ⟨fun w => absurd w n10, fun _ => ?_⟩) (fun w => absurd (by omega) w)
  rw [i32_id (x := 86 + 9 * a1) (by omega) (by omega), i32_id (x := τ 1 (86 + 9 * a1) - 1) (by omega) (by omega)]
  refine ⟨⟨by omega, by omega⟩, in_ok (i64_of32 r2) k64_0 (i64_id (by omega) (by omega)) (fun _ => ⟨fun w => absurd w n10, fun _ => ?_⟩) (fun w => absurd (by omega) w)⟩
  unfold V_M_letterOf
  rw [i32_id (x := 86 + 9 * a1 + 1 + a2) (by omega) (by omega)]
  refine ⟨⟨by omega, by omega⟩, ?_, hR⟩
  rw [show (86 : Int) + 9 * a1 + 1 + a2 = 87 + 9 * a1 + a2 by omega]
theorem op_worked {σ τ : St} (hR : Rel σ τ) {a1 : Int} (r1 : i32 a1 = a1) : V_P_worked σ a1 (fun r σ' => V_M_worked τ a1 (fun r' τ' => i32 r = i32 r' ∧ Rel σ' τ')) := by
  have hl := (stS_ok hR.2.1).2.1
  have hw1 := hR.2.1.2.2.2.2.2.2.1
  have hw2 := hR.2.1.2.2.2.2.2.2.2.1
  have e6 : σ 1 6 = τ 1 1 := hR.2.2.1.2.1
  have bad : ¬ (0 ≤ a1 ∧ a1 < τ 1 1) → V_P_fail σ 1 (fun r σ' => V_M_worked τ a1 (fun r' τ' => i32 r = i32 r' ∧ Rel σ' τ')) := by
    intro hc
    refine both_fail (e := -1000000001) hR (by decide) (by decide) (by decide) (VM := fun τ Q => V_M_worked τ a1 Q) (fun Q hQ => ?_)
    unfold V_M_worked
    rw [r1, i32_id (x := τ 1 1 - 1) (by omega) (by omega)]
    exact in_ok (i64_of32 r1) k64_0 (i64_id (by omega) (by omega)) (fun z => absurd (by omega) hc) (fun _ => ⟨fun _ => hQ, fun z => absurd z00 z⟩)
  unfold V_P_worked
  rw [r1, e6, i32_id (x := τ 1 1) (by omega) (by omega)]
  refine ⟨fun z => bad (by omega), fun z => ⟨fun y => ⟨⟨by omega, by omega⟩, ?_⟩, fun y => bad (by omega)⟩⟩
  unfold V_M_worked
  rw [r1, i32_id (x := τ 1 1 - 1) (by omega) (by omega)]
  refine in_ok (i64_of32 r1) k64_0 (i64_id (by omega) (by omega)) (fun _ => ⟨fun z => absurd z n10, fun _ => ?_⟩) (fun w => absurd (by omega) w)
  rw [i32_id (x := 156 + a1) (by omega) (by omega)]
  refine ⟨⟨by omega, by omega⟩, ?_, hR⟩
  have : σ 6 a1 = τ 1 (156 + a1) := hR.2.2.1.2.2.2.2.2 a1 z (by omega)
  rw [this]
theorem op_at {σ τ : St} (hR : Rel σ τ) {a1 : Int} (r1 : i32 a1 = a1) : V_P_at σ a1 (fun r σ' => V_M_at τ a1 (fun r' τ' => i32 r = i32 r' ∧ Rel σ' τ')) := by
  obtain ⟨p1, p2, p3⟩ := hR.pl
  unfold V_P_at
  refine isThread_ok r1 p1 p2 p3 (fun hc => ⟨fun _ => ?_, fun z => absurd z n10⟩) (fun hc => ⟨fun z => absurd z00 z, fun _ => ?_⟩)
  · rw [r1]
    refine ⟨⟨by omega, by omega⟩, ?_⟩
    unfold V_M_at
    dsimp only [V_M_threads]
    rw [r1, i32_id (x := 2 * τ 1 0 - 1) (by omega) (by omega)]
    refine in_ok (i64_of32 r1) k64_0 (i64_id (by omega) (by omega)) (fun _ => ⟨fun _ => Mwork hR (fun τ' m f => ⟨⟨by omega, by omega⟩, ?_, hR.fm (mw_sc f)⟩), fun z => absurd z n10⟩) (fun w => absurd (by omega) w)
    have e1 : σ 30 a1 = (wkA (τ 1)).1 a1 := hR.2.2.2.2.2.1.1 a1 (by omega) (by omega)
    rw [e1, m.1 a1 (by omega) (by omega)]
  · refine both_fail (e := -1000000001) hR (by decide) (by decide) (by decide) (VM := fun τ Q => V_M_at τ a1 Q) (fun Q hQ => ?_)
    unfold V_M_at
    dsimp only [V_M_threads]
    rw [r1, i32_id (x := 2 * τ 1 0 - 1) (by omega) (by omega)]
    exact in_ok (i64_of32 r1) k64_0 (i64_id (by omega) (by omega)) (fun z => absurd (by omega) hc) (fun _ => ⟨fun z => absurd z00 z, fun _ => hQ⟩)

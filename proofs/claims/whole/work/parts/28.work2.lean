def fr (S : List GR) (D : Nat) (a : Int) : Prop := D.testBit a.toNat = false ∧ ∀ i, (bS S a).testBit i = true → D.testBit i = true
theorem bS_ok {S : List GR} (hB : gB S) (hl : S.length ≤ 48) {a : Int} (h1 : 0 ≤ a) (h2 : a < S.length) : bS S a < 2 ^ 48 ∧ ∃ x, S[a.toNat]? = some x ∧ x.2.2.2.2 = (bS S a : Int) := by
  obtain ⟨x, x1, x2, x3, x4, x5⟩ := S_at h1 h2
  obtain ⟨m, m1, m2, m3⟩ := hB _ x x1
  have e : bS S a = m := by rw [x5, m1]; rfl
  refine ⟨?_, x, x1, by rw [e, m1]⟩
  rw [e]
  exact Nat.lt_of_lt_of_le m2 (Nat.pow_le_pow_right (by decide) (by omega))
theorem p48 : (2 : Nat) ^ 48 < 2 ^ 63 := by decide
theorem fr_cond {S : List GR} (hB : gB S) (hl : S.length ≤ 48) {a b : Int} {D : Nat} (h1 : 0 ≤ a) (h2 : a < S.length) (hD : D < 2 ^ 48) (hb : b = (bS S a : Int)) {A B : Prop} (hn : ¬ fr S D a → A) (hy : fr S D a → B) :
    ((¬ i64 (lan (lsr D a) 1) = 0 → A) ∧ (i64 (lan (lsr D a) 1) = 0 → (0 ≤ i32 a ∧ i32 a < 48) ∧ ((¬ i64 (lan b (lxr D (-1))) = 0 → A) ∧ (i64 (lan b (lxr D (-1))) = 0 → B)))) := by
  obtain ⟨n, rfl⟩ : ∃ n : Nat, a = n := ⟨a.toNat, by omega⟩
  have hn48 : n < 48 := by omega
  have hp := p48
  have e1 : lan (lsr D n) 1 = if D.testBit n then 1 else 0 := bit_ok (by omega) (by omega)
  have e2 : i64 (lan (lsr D n) 1) = if D.testBit n then 1 else 0 := by
    rw [e1]
    split
    · exact k64_1
    · exact k64_0
  have hbs := (bS_ok hB hl h1 h2).1
  have e3 : i64 (lan b (lxr D (-1))) = 0 ↔ ∀ i, (bS S n).testBit i = true → D.testBit i = true := by
    rw [hb]
    exact sub_ok (by omega) (by omega)
  have en : ((n : Int)).toNat = n := by omega
  rw [e2]
  refine ⟨fun h => hn (fun z => ?_), fun h => ⟨⟨by rw [i32_id (by omega) (by omega)]; omega, by rw [i32_id (by omega) (by omega)]; omega⟩, fun h3 => hn (fun z => h3 (e3.mpr z.2)), fun h3 => hy ⟨?_, e3.mp h3⟩⟩⟩
  · have z1 := z.1
    rw [en] at z1
    rw [z1] at h
    exact h rfl
  · rw [en]
    cases hb2 : D.testBit n with
    | false => rfl
    | true =>
      rw [hb2] at h
      exact absurd h (by decide)
theorem isFree_ok {σ : St} {S : List GR} {a : Int} {D : Nat} {Q : Int → St → Prop} (hG : GC σ S) (hB : gB S) (hl : S.length ≤ 48) (h1 : 0 ≤ a) (h2 : a < S.length) (hD : D < 2 ^ 48) (hy : fr S D a → Q 1 σ) (hn : ¬ fr S D a → Q 0 σ) : V_Ground_isFree σ a D Q := by
  obtain ⟨hb, x, x1, x2⟩ := bS_ok hB hl h1 h2
  have e : σ 21 a = (bS S a : Int) := by
    have := hG.2.2 _ x x1
    rw [show ((a.toNat : Nat) : Int) = a by omega] at this
    rw [this.2.2.2.2, x2]
  unfold V_Ground_isFree
  rw [show σ 21 (i32 a) = σ 21 a by rw [i32_id (by omega) (by omega)]]
  exact fr_cond hB hl h1 h2 hD e hn hy
theorem workedSet_ok {τ : St} {Q : Int → St → Prop} (hp : planOk (τ 1)) (h : Q (wsN (τ 1) (τ 1 1).toNat) τ) : V_M_workedSet τ Q := by
  have q7 := hp.2.2.2.2.2.2.1
  have q8 := hp.2.2.2.2.2.2.2.1
  have hl := (stS_ok hp).2.1
  unfold V_M_workedSet
  refine wl2 (fun i y u => u = τ ∧ ∃ n : Nat, (n : Int) ≤ τ 1 1 ∧ i = n ∧ y = wsI (τ 1) n) (fun i _ _ => (τ 1 1 - i).toNat) ⟨rfl, 0, by omega, rfl, rfl⟩ ?_
  intro bk i y u hI hb
  obtain ⟨rfl, n, hn, rfl, rfl⟩ := hI
  rw [i32_id (x := (n : Int)) (by omega) (by omega), i32_id (x := u 1 1) (by omega) (by omega), i32_id (x := 156 + (n : Int)) (by omega) (by omega)]
  refine ⟨fun hc => ?_, fun hc => ⟨⟨by omega, by omega⟩, fun z hz => hb _ _ _ ⟨rfl, n + 1, by omega, by omega, hz⟩ (by omega)⟩⟩
  have e : (u 1 1).toNat = n := by omega
  rw [e] at h
  rw [(ws_bits hp n hn).1]
  exact h
theorem MisFree_ok {τ : St} {a : Int} {Q : Int → St → Prop} (hp : planOk (τ 1)) (hG : GM τ (stS (τ 1))) (h1 : 0 ≤ a) (h2 : a < (stS (τ 1)).length) (hy : isfr (τ 1) a → Q 1 τ) (hn : ¬ isfr (τ 1) a → Q 0 τ) : V_M_isFree τ a Q := by
  obtain ⟨o1, o2, o3, o4⟩ := stS_ok hp
  have q7 := hp.2.2.2.2.2.2.1
  obtain ⟨hb, x, x1, x2⟩ := bS_ok o3 o2 h1 h2
  have e : τ 9 a = (bS (stS (τ 1)) a : Int) := by
    have := hG.2 _ x x1
    rw [show ((a.toNat : Nat) : Int) = a by omega] at this
    rw [this.2.2.2.2, x2]
  unfold V_M_isFree
  refine workedSet_ok hp ?_
  rw [show τ 9 (i32 a) = τ 9 a by rw [i32_id (by omega) (by omega)]]
  exact fr_cond o3 o2 h1 h2 (ws_bits hp (τ 1 1).toNat (by omega)).2.1 e hn hy
/-- the class after one more: with any reference that has it too -/
theorem Rel.next {σ σ' τ τ' : St} (hR : Rel σ τ) {N' : Int → Int} (e1 : τ' 1 = N') (hp : planOk N') (hS : stS N' = stS (τ 1)) (hP : PR σ' 1 N') (hC : CW σ' 29 (wkA N')) (hb : σ' 0 9 = wsI N' (N' 1).toNat) (h3 : ∀ i, 86 ≤ i → i < 140 → N' i = τ 1 i) (fC : ∀ k, (7 ≤ k ∧ k ≤ 28) ∨ (41 ≤ k ∧ k ≤ 64) → σ' k = σ k) (e8 : σ' 0 8 = σ 0 8) (e3 : σ' 0 3 = σ 0 3) (fM : ∀ k, k ≠ 0 → k ≠ 1 → k ∉ scK → τ' k = τ k) (fJ : ∀ j, j ∉ scJ → τ' 0 j = τ 0 j) : Rel σ' τ' := by
  obtain ⟨a, p1, p2, p3, p4, p5, p6, p7, p8⟩ := hR
  refine ⟨(a.fc (fun k h => fC k (by omega)) e3).fm (fM 2 (by decide) (by decide) (by decide)) (fM 4 (by decide) (by decide) (by decide)) (fM 10 (by decide) (by decide) (by decide)) (fM 24 (by decide) (by decide) (by decide)) (fM 25 (by decide) (by decide) (by decide)) (fM 26 (by decide) (by decide) (by decide)) (fJ 3 (by decide)) (fJ 12 (by decide)), ?_⟩
  unfold RelP
  rw [e1, hS]
  refine ⟨hp, hP, p3.fe (fun k x y => fC k (by omega)), ?_, hC, hb, ?_, ?_⟩
  · unfold GM
    rw [fJ 5 (by decide), fM 5 (by decide) (by decide) (by decide), fM 6 (by decide) (by decide) (by decide), fM 7 (by decide) (by decide) (by decide), fM 8 (by decide) (by decide) (by decide), fM 9 (by decide) (by decide) (by decide)]
    exact p4
  · unfold thR
    rw [e8, hS]
    rcases p7 with q | ⟨q1, q2, q3⟩
    · exact Or.inl q
    · refine Or.inr ⟨q1, q2, ?_⟩
      have : alA N' (σ 0 8).toNat = alA (τ 1) (σ 0 8).toNat := by
        unfold alA
        rw [hS]
        exact awQ_congrN (plan_st p1) h3 _ (fun i hi => ⟨by omega, by omega⟩) (fun _ _ => rfl)
      rw [this]
      exact q3.fe (fun k x y => fC k (by omega))
  · unfold wyR
    rw [fC 23 (by omega), hS]
    rcases p8 with q | ⟨q1, q2⟩
    · exact Or.inl q
    · exact Or.inr ⟨q1, q2.fe (fun k x y => fC k (by omega))⟩
theorem try_ok {σ τ : St} (hR : Rel σ τ) {a : Int} {Q : Int → St → Prop} (ra : i64 a = a) (h1 : ¬ (0 ≤ a ∧ a < (stS (τ 1)).length) → Q 1 σ) (h3 : 0 ≤ a → a < (stS (τ 1)).length → ¬ isfr (τ 1) a → Q 3 σ) (h6 : 0 ≤ a → a < (stS (τ 1)).length → isfr (τ 1) a → ¬ enough (τ 1) a → ∀ σ', Rel σ' τ → Q 6 σ')
    (h0 : 0 ≤ a → a < (stS (τ 1)).length → isfr (τ 1) a → enough (τ 1) a → ∀ σ', (σ' 19 = σ 19 ∧ σ' 3 = σ 3 ∧ σ' 4 = σ 4 ∧ ∀ k, 53 ≤ k → k ≤ 64 → σ' k = σ k) → (∀ τ', τ' 1 = wkN (τ 1) a → (∀ k, k ≠ 0 → k ≠ 1 → k ∉ scK → τ' k = τ k) → (∀ j, j ∉ scJ → τ' 0 j = τ 0 j) → Rel σ' τ') → Q 0 σ') : V_P_tryStitch σ a Q := by
  obtain ⟨hA, p1, p2, p3, p4, p5, p6, p7, p8⟩ := hR
  have hR : Rel σ τ := ⟨hA, p1, p2, p3, p4, p5, p6, p7, p8⟩
  obtain ⟨N, hN⟩ : ∃ N, N = τ 1 := ⟨_, rfl⟩
  rw [← hN] at p1 p2 p3 p5 p6 h1 h3 h6 h0
  obtain ⟨o1, o2, o3, o4⟩ := stS_ok p1
  have q7 := p1.2.2.2.2.2.2.1
  have q8 := p1.2.2.2.2.2.2.2.1
  obtain ⟨w1, w2, w3⟩ := ws_bits p1 (N 1).toNat (by omega)
  unfold V_P_tryStitch
  refine isStitch_ok p3 o2 ra (fun hc => ⟨fun _ => ?_, fun w => absurd w n10⟩) (fun hc => ⟨fun w => absurd z00 w, fun _ => h1 hc⟩)
  rw [p6, w1]
  refine isFree_ok p3 o3 o2 hc.1 hc.2 w2 (fun hf => ⟨fun _ => ?_, fun w => absurd w n10⟩) (fun hf => ⟨fun w => absurd z00 w, fun _ => h3 hc.1 hc.2 hf⟩)
  have ia : i32 a = a := i32_id (by omega) (by omega)
  obtain ⟨g1, g2⟩ := GC_at p3 hc.1 hc.2
  rw [ia, g1, g2]
  refine ⟨⟨by omega, by omega⟩, ⟨by omega, by omega⟩, ?_⟩
  obtain ⟨n1, n2, n3, n4, n5⟩ := wkN_ok p1 hc.1 hc.2 hf
  have hwk := wk_all p1
  refine make_st (wk := fun i => N (156 + i)) (by decide) p1 p2 hwk (by omega) (wk_ord p1 (by omega)) p5 hc.1 hc.2 (wk_near p1 (by omega) hc.1 hc.2 hf.1) (fun t m f => ?_)
  have hst := plan_st p1
  have hsr := hst.2.2.1 a hc.1 hc.2
  have huse : ∀ x, 0 ≤ (awS N (wkA N) (kS (stS N) a) (gS (stS N) a) a).2.1 x ∧ (awS N (wkA N) (kS (stS N) a) (gS (stS N) a) a).2.1 x ≤ 2036 := fun x => awS_use (hst.2.2.2 _ hsr.1 hsr.2.1) (wkA_use p1) x
  refine lack_ok (N := N) (u := (awS N (wkA N) (kS (stS N) a) (gS (stS N) a) a).2.1) (fun x b c => ⟨(m.2.2.1.1 x b c).1, (huse x).1, by have := (huse x).2; omega⟩) (fun x b c => ⟨by rw [f 5 (by omega)]; exact p2.2.2.2.2.1 x b c, p1.2.2.2.2.2.1 x b c⟩) (fun hen => ⟨fun _ => ?_, fun w => absurd w (by decide)⟩) (fun r x1 x2 x3 x4 => ⟨fun w => ?_, fun _ => ?_⟩)
  · intro t8 h8
    have c16 : t8 1 6 = N 1 := by rw [h8, ss_row _ (by decide), f 1 (by omega)]; exact p2.2.1
    rw [c16, i32_id (x := N 1) (by omega) (by omega)]
    refine ⟨⟨by omega, by omega⟩, fun t9 h9 t10 h10 => ?_⟩
    have fr10 : ∀ k, k ≠ 0 → k ≠ 1 → k ≠ 6 → (k < 29 ∨ 40 < k) → t10 k = σ k := fun k x y z w => by rw [h10, ss_row _ y, h9, ss_row _ z, h8, ss_row _ x, f k (by omega)]
    refine h0 hc.1 hc.2 hf hen t10 ⟨fr10 19 (by decide) (by decide) (by decide) (by omega), fr10 3 (by decide) (by decide) (by decide) (by omega), fr10 4 (by decide) (by decide) (by decide) (by omega), fun k x y => fr10 k (by omega) (by omega) (by omega) (by omega)⟩ (fun τ' m1 m2 m3 => ?_)
    have c9 : t9 1 6 = N 1 := by rw [h9, ss_row _ (by decide)]; exact c16
    refine hR.next (N' := wkN N a) m1 n1 (by rw [n2, hN]) ?_ ?_ ?_ (fun i x y => ?_) (fun k hk => fr10 k (by omega) (by omega) (by omega) (by omega)) ?_ ?_ m2 m3
    · obtain ⟨z1, z2, z3, z4, z5, z6⟩ := p2
      refine ⟨?_, ?_, fun k x y => ?_, fun k x y => ?_, fun k x y => ?_, fun k x y => ?_⟩
      · rw [h10, ss_ne _ _ (by decide), h9, ss_row _ (by decide), h8, ss_row _ (by decide), f 1 (by omega), z1]
        unfold wkN
        rw [if_neg (by decide), if_neg (by omega)]
      · rw [h10, ss_at, c9]
        unfold wkN
        rw [if_pos rfl]
      · rw [fr10 _ (by decide) (by decide) (by decide) (by omega), z3 k x y]
        unfold wkN
        rw [if_neg (by omega), if_neg (by omega)]
      · rw [fr10 _ (by decide) (by decide) (by decide) (by omega), fr10 _ (by decide) (by decide) (by decide) (by omega)]
        refine ⟨?_, fun i b c => ?_⟩
        · rw [(z4 k x y).1]
          unfold wkN
          rw [if_neg (by omega), if_neg (by omega)]
        · rw [(z4 k x y).2 i b c]
          unfold wkN
          rw [if_neg (by omega), if_neg (by omega)]
      · rw [fr10 _ (by decide) (by decide) (by decide) (by omega), z5 k x y]
        unfold wkN
        rw [if_neg (by omega), if_neg (by omega)]
      · rw [h10, ss_row _ (by decide), h9, ss_self, h8, ss_row _ (by decide), f 6 (by omega)]
        show (if k = N 1 then a else σ 6 k) = _
        have hz : σ 6 k = N (156 + k) := z6 k x y
        unfold wkN
        by_cases ck : k = N 1
        · rw [if_pos ck, if_neg (by omega), if_pos (by omega)]
        · rw [if_neg ck, if_neg (by omega), if_neg (by omega)]
          exact hz
    · rw [n3]
      exact CW.fe (σ := t) m (fun k x y => by rw [h10, ss_row _ (by omega), h9, ss_row _ (by omega), h8, ss_row _ (by omega)])
    · rw [n4, h10, ss_row _ (by decide), h9, ss_row _ (by decide), h8, ss_at, f 0 (by omega), p6]
    · unfold wkN
      rw [if_neg (by omega), if_neg (by omega), hN]
    · rw [h10, ss_row _ (by decide), h9, ss_row _ (by decide), h8, ss_ne _ _ (by decide), f 0 (by omega)]
    · rw [h10, ss_row _ (by decide), h9, ss_row _ (by decide), h8, ss_ne _ _ (by decide), f 0 (by omega)]
  · rw [i32_id (x := r) (by omega) (by omega)] at w
    omega
  · refine replay_ok p1 (p2.fr (fun k x y => f k (by omega))) (p3.fe (fun k x y => f k (by omega))) (fun u v1 v2 v3 => h6 hc.1 hc.2 hf (fun z => by have := z r x1 x2; omega) u ?_)
    have fu : ∀ k, k ≠ 0 → (k < 29 ∨ 40 < k) → u k = σ k := fun k x y => by
      rw [v3.1 k x (by simp only [List.mem_cons, List.not_mem_nil, or_false]; omega), f k (by omega)]
    have fu0 : ∀ j, j ≠ 9 → u 0 j = σ 0 j := fun j x => by rw [v3.2 j (by simp [x]), f 0 (by omega)]
    rw [hN] at v1 v2 p1 p2 p3
    refine ⟨hA.fc (fun k h => fu k (by omega) (by omega)) (fu0 3 (by decide)), p1, p2.fr (fun k x y => fu k (by omega) (by omega)), p3.fe (fun k x y => fu k (by omega) (by omega)), p4, v1, v2, ?_, ?_⟩
    · unfold thR
      rw [fu0 8 (by decide)]
      rcases p7 with q | ⟨z1, z2, z3⟩
      · exact Or.inl q
      · exact Or.inr ⟨z1, z2, z3.fe (fun k x y => fu k (by omega) (by omega))⟩
    · unfold wyR
      rw [fu 23 (by decide) (by omega)]
      rcases p8 with q | ⟨z1, z2⟩
      · exact Or.inl q
      · exact Or.inr ⟨z1, z2.fe (fun k x y => fu k (by omega) (by omega))⟩

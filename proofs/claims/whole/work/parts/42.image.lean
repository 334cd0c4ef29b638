-- IMAGE, RESTORE
theorem planOk_congr {N N' : Int → Int} (h : planOk N) (e : ∀ i, 0 ≤ i → i < 204 → N' i = N i) : planOk N' ∧ stS N' = stS N ∧ wkA N' = wkA N ∧ wsI N' (N' 1).toNat = wsI N (N 1).toNat := by
  have hS : stS N' = stS N := stS_congr (e 0 (by decide) (by decide)) h.2.1 (fun i x y => e i (by omega) (by omega))
  have hl := (stS_ok h).2.1
  have q7 := h.2.2.2.2.2.2.1
  have q8 := h.2.2.2.2.2.2.2.1
  have h1 : N' 1 = N 1 := e 1 (by decide) (by decide)
  refine ⟨⟨?_, ?_, ⟨fun k x y => ?_, fun r g x1 x2 x3 x4 => ?_⟩, fun r g x1 x2 x3 x4 => ?_, fun k x y => ?_, fun t x y => ?_, by rw [h1]; exact q7, by rw [h1, hS]; exact q8, ?_⟩, hS, ?_, ?_⟩
  · rw [e 0 (by decide) (by decide)]; exact h.1
  · rw [e 0 (by decide) (by decide)]; exact h.2.1
  · rw [e _ (by omega) (by omega)]; exact h.2.2.1.1 k x y
  · rw [e _ (by omega) (by omega), e _ (by omega) (by omega)]; exact h.2.2.1.2 r g x1 x2 x3 x4
  · rw [e 0 (by decide) (by decide)] at x3
    have := h.1
    rw [e _ (by omega) (by omega)]
    exact h.2.2.2.1 r g x1 x2 x3 x4
  · obtain ⟨w1, w2, w3⟩ := h.2.2.2.2.1 k x y
    unfold wordOk
    rw [e _ (by omega) (by omega)]
    refine ⟨w1, w2, fun i z1 z2 => ?_⟩
    rw [e _ (by omega) (by omega)]
    exact w3 i z1 z2
  · rw [e _ (by omega) (by omega)]; exact h.2.2.2.2.2.1 t x y
  · rw [hS]
    intro k hk
    rw [h1] at hk
    rw [e _ (by omega) (by omega), (wsN_congr (N := N) (N' := N') k (fun i hi => e _ (by omega) (by omega))).1]
    exact h.2.2.2.2.2.2.2.2 k hk
  · unfold wkA
    rw [hS, h1]
    exact awQ_congrN (plan_st h) (fun i a b => e i (by omega) (by omega)) _ (wk_all h) (fun i hi => e _ (by omega) (by omega))
  · rw [h1, (wsN_congr (N := N) (N' := N') (N 1).toNat (fun i hi => e _ (by omega) (by omega))).2]
theorem PR_congr {σ : St} {o : Nat} {N N' : Int → Int} (h : PR σ o N) (e : ∀ i, 0 ≤ i → i < 204 → N' i = N i) : PR σ o N' := by
  obtain ⟨z1, z2, z3, z4, z5, z6⟩ := h
  refine ⟨by rw [e 0 (by decide) (by decide)]; exact z1, by rw [e 1 (by decide) (by decide)]; exact z2, fun k x y => by rw [e _ (by omega) (by omega)]; exact z3 k x y, fun k x y => ?_, fun k x y => by rw [e _ (by omega) (by omega)]; exact z5 k x y, fun k x y => by rw [e _ (by omega) (by omega)]; exact z6 k x y⟩
  rw [e _ (by omega) (by omega)]
  refine ⟨(z4 k x y).1, fun i a b => ?_⟩
  rw [e _ (by omega) (by omega)]
  exact (z4 k x y).2 i a b
theorem copyFrom_ok {σ : St} {o o2 : Nat} {N : Int → Int} {Q : St → Prop} (hd : o + 5 < o2 ∨ o2 + 5 < o) (hP : PR σ o2 N) (k : ∀ σ', PR σ' o N → (∀ q, (q < o ∨ o + 5 < q) → σ' q = σ q) → Q σ') : V_Plan_copyFrom o o2 σ Q := by
  unfold V_Plan_copyFrom
  intro s1 h1 s2 h2 s3 h3 s4 h4 s5 h5 s6 h6 s7 h7
  obtain ⟨z1, z2, z3, z4, z5, z6⟩ := hP
  have f1 : ∀ q, q ≠ o → s1 q = σ q := fun q a => by rw [h1, ss_row _ a]
  have f2 : ∀ q, q ≠ o → q ≠ o + 1 → s2 q = σ q := fun q a b => by rw [h2, sf_row _ b]; exact f1 q a
  have f3 : ∀ q, q ≠ o → q ≠ o + 1 → q ≠ o + 2 → s3 q = σ q := fun q a b c => by rw [h3, sf_row _ c]; exact f2 q a b
  have f4 : ∀ q, q ≠ o → q ≠ o + 1 → q ≠ o + 2 → q ≠ o + 3 → s4 q = σ q := fun q a b c d => by rw [h4, sf_row _ d]; exact f3 q a b c
  have f5 : ∀ q, q ≠ o → q ≠ o + 1 → q ≠ o + 2 → q ≠ o + 3 → q ≠ o + 4 → s5 q = σ q := fun q a b c d e => by rw [h5, sf_row _ e]; exact f4 q a b c d
  have f6 : ∀ q, (q < o ∨ o + 5 < q) → s6 q = σ q := fun q a => by rw [h6, sf_row _ (by omega)]; exact f5 q (by omega) (by omega) (by omega) (by omega) (by omega)
  have f7 : ∀ q, (q < o ∨ o + 5 < q) → s7 q = σ q := fun q a => by rw [h7, ss_row _ (by omega)]; exact f6 q a
  have e70 : ∀ j, j ≠ 6 → s7 o j = s1 o j := fun j a => by
    rw [h7, ss_ne _ _ a, h6, sf_row _ (by omega), h5, sf_row _ (by omega), h4, sf_row _ (by omega), h3, sf_row _ (by omega), h2, sf_row _ (by omega)]
  refine k s7 ⟨?_, ?_, fun k x y => ?_, fun k x y => ⟨?_, fun i a b => ?_⟩, fun k x y => ?_, fun k x y => ?_⟩ f7
  · rw [e70 0 (by decide), h1, ss_at]; exact z1
  · rw [h7, ss_at, f6 o2 (by omega)]; exact z2
  · rw [h7, ss_row _ (by omega), h6, sf_row _ (by omega), h5, sf_row _ (by omega), h4, sf_row _ (by omega), h3, sf_row _ (by omega), h2, sf_at]
    show (if 0 ≤ k ∧ k < 84 then s1 (o2 + 1) k else s1 (o + 1) k) = _
    rw [if_pos ⟨x, y⟩, f1 _ (by omega)]
    exact z3 k x y
  · rw [h7, ss_row _ (by omega), h6, sf_row _ (by omega), h5, sf_row _ (by omega), h4, sf_at]
    show (if 0 ≤ k ∧ k < 6 then s3 (o2 + 3) k else s3 (o + 3) k) = _
    rw [if_pos ⟨x, y⟩, f3 _ (by omega) (by omega) (by omega)]
    exact (z4 k x y).1
  · rw [h7, ss_row _ (by omega), h6, sf_row _ (by omega), h5, sf_row _ (by omega), h4, sf_row _ (by omega), h3, sf_at]
    show (if 0 ≤ k * 8 + i ∧ k * 8 + i < 48 then s2 (o2 + 2) (k * 8 + i) else s2 (o + 2) (k * 8 + i)) = _
    rw [if_pos (by omega), f2 _ (by omega) (by omega)]
    exact (z4 k x y).2 i a b
  · rw [h7, ss_row _ (by omega), h6, sf_row _ (by omega), h5, sf_at]
    show (if 0 ≤ k ∧ k < 16 then s4 (o2 + 4) k else s4 (o + 4) k) = _
    rw [if_pos ⟨x, y⟩, f4 _ (by omega) (by omega) (by omega) (by omega)]
    exact z5 k x y
  · rw [h7, ss_row _ (by omega), h6, sf_at]
    show (if 0 ≤ k ∧ k < 48 then s5 (o2 + 5) k else s5 (o + 5) k) = _
    rw [if_pos ⟨x, y⟩, f5 _ (by omega) (by omega) (by omega) (by omega) (by omega)]
    exact z6 k x y
theorem Mcopy_ok {a b : Nat} {τ : St} {Q : St → Prop} (hab : a ≠ b) (h : ∀ τ', (∀ i, 0 ≤ i → i < 204 → τ' b i = τ a i) → (∀ k, k ≠ b → τ' k = τ k) → Q τ') : V_M_copy a b τ Q := by
  unfold V_M_copy
  refine wl1 (fun i u => 0 ≤ i ∧ i ≤ 204 ∧ (∀ j, 0 ≤ j → j < i → u b j = τ a j) ∧ ∀ k, k ≠ b → u k = τ k) (fun i _ => (204 - i).toNat) ⟨by omega, by omega, fun j x y => by omega, fun _ _ => rfl⟩ ?_
  intro bk i u hI hb
  obtain ⟨i1, i2, i3, i4⟩ := hI
  rw [i32_id (x := i) (by omega) (by omega)]
  refine ⟨fun hc => h u (fun j x y => i3 j x (by omega)) i4, fun hc => ⟨⟨i1, hc⟩, ⟨i1, hc⟩, fun v hv => hb _ _ ⟨by omega, by omega, fun j x y => ?_, fun k hk => by rw [hv, ss_row _ hk]; exact i4 k hk⟩ (by omega)⟩⟩
  rw [hv, ss_self]
  show (if j = i then u a i else u b j) = _
  by_cases c : j = i
  · rw [if_pos c, i4 a hab, c]
  · rw [if_neg c]
    exact i3 j x (by omega)
theorem op_image {σ τ : St} (hRel : Rel σ τ) : V_P_image σ (fun r σ' => V_M_image τ (fun r' τ' => i32 r = i32 r' ∧ Rel σ' τ')) := by
  obtain ⟨⟨a1, a2, a3, a4⟩, p1, p2, p3, p4, p5, p6, p7, p8⟩ := hRel
  have hRel : Rel σ τ := ⟨⟨a1, a2, a3, a4⟩, p1, p2, p3, p4, p5, p6, p7, p8⟩
  unfold V_P_image
  refine copyFrom_ok (by omega) p2 (fun s hP fs => ?_)
  unfold V_Heap_copyFrom
  intro s1 h1 s2 h2 s3 h3 s4 h4
  have hH : HP σ 38 (hR (wkA (τ 1)).2.2) := p5.2.2.2.2
  have g1 : ∀ q, q ≠ 13 → s1 q = s q := fun q a => by rw [h1, ss_row _ a]
  have g4 : ∀ q, q ≠ 0 → q ≠ 13 → q ≠ 14 → q ≠ 15 → s4 q = s q := fun q a b c d => by rw [h4, ss_row _ a, h3, sf_row _ d, h2, sf_row _ c, h1, ss_row _ b]
  have g0 : ∀ j, j ≠ 3 → s4 0 j = s 0 j := fun j a => by rw [h4, ss_ne _ _ a, h3, sf_row _ (by decide), h2, sf_row _ (by decide), h1, ss_row _ (by decide)]
  have fr : ∀ q, q ≠ 0 → (q < 7 ∨ 15 < q) → s4 q = σ q := fun q a b => by rw [g4 q a (by omega) (by omega) (by omega)]; exact fs q (by omega)
  have hP4 : PR s4 7 (τ 1) := hP.fr (fun k a b => g4 k (by omega) (by omega) (by omega) (by omega))
  have hH4 : HP s4 13 (hR (wkA (τ 1)).2.2) := by
    obtain ⟨b1, b2, b3, b4⟩ := hH
    refine ⟨?_, fun l p x y z w => ?_, fun p x y => ?_, b4⟩
    · rw [h4, ss_row _ (by decide), h3, sf_row _ (by decide), h2, sf_row _ (by decide), h1, ss_at, fs 38 (by omega)]; exact b1
    · show s4 14 (l * 15 + p) = _
      rw [h4, ss_row _ (by decide), h3, sf_row _ (by decide), h2, sf_at]
      show (if 0 ≤ l * 15 + p ∧ l * 15 + p < 1440 then s1 39 (l * 15 + p) else s1 14 (l * 15 + p)) = _
      rw [if_pos (by omega), g1 39 (by decide), fs 39 (by omega)]
      exact b2 l p x y z w
    · show s4 15 (p + 1) = _
      rw [h4, ss_row _ (by decide), h3, sf_at]
      show (if 0 ≤ p + 1 ∧ p + 1 < 17 then s2 40 (p + 1) else s2 15 (p + 1)) = _
      rw [if_pos (by omega), h2, sf_row _ (by decide), g1 40 (by decide), fs 40 (by omega)]
      exact b3 p x y
  unfold V_M_image
  refine Mcopy_ok (by decide) (fun t t2 ft m hm => ?_)
  have m2 : m 2 = t 2 := by rw [hm, ss_row _ (by decide)]
  have fm : ∀ k, k ≠ 0 → k ≠ 2 → m k = τ k := fun k a b => by rw [hm, ss_row _ a]; exact ft k b
  have fj : ∀ j, j ≠ 3 → m 0 j = τ 0 j := fun j a => by rw [hm, ss_ne _ _ a, ft 0 (by decide)]
  obtain ⟨n1, n2, n3, n4⟩ := planOk_congr (N' := m 2) p1 (fun i a b => by rw [m2]; exact t2 i a b)
  refine ⟨?_, ⟨⟨?_, fun i hi => ?_, ?_, Or.inr ⟨?_, ?_, n1, PR_congr hP4 (fun i a b => by rw [m2]; exact t2 i a b), by rw [n3]; exact hH4⟩⟩, ?_⟩⟩
  · rw [hP4.2.1, fm 1 (by decide) (by decide)]
  · unfold tapeR
    rw [fr 53 (by decide) (by omega), fr 54 (by decide) (by omega), fj 12 (by decide), fm 10 (by decide) (by decide)]
    exact a1
  · rw [fr _ (by omega) (by omega), fr _ (by omega) (by omega), fm 24 (by decide) (by decide), fm 25 (by decide) (by decide), fm 26 (by decide) (by decide)]
    exact a2 i hi
  · unfold errR
    rw [fr 56 (by decide) (by omega), fm 4 (by decide) (by decide)]
    exact a3
  · rw [h4, ss_at]
  · rw [hm, ss_at]
  · refine RelP.fm (τ := τ) ?_ (fm 1 (by decide) (by decide)) (fj 5 (by decide)) (fun k a b => fm k (by omega) (by omega))
    exact hRel.2.fc (fun k h => fr k (by omega) (by omega)) (by rw [g0 8 (by decide), fs 0 (by omega)]) (by rw [g0 9 (by decide), fs 0 (by omega)])
theorem op_restore {σ τ : St} (hRel : Rel σ τ) : V_P_restore σ (fun r σ' => V_M_restore τ (fun r' τ' => i32 r = i32 r' ∧ Rel σ' τ')) := by
  obtain ⟨⟨a1, a2, a3, a4⟩, p1, p2, p3, p4, p5, p6, p7, p8⟩ := hRel
  have hRel : Rel σ τ := ⟨⟨a1, a2, a3, a4⟩, p1, p2, p3, p4, p5, p6, p7, p8⟩
  unfold V_P_restore
  rcases a4 with ⟨q1, q2⟩ | ⟨q1, q2, q3, q4, q5⟩
  · rw [q1, z00]
    refine ⟨fun w => absurd rfl w, fun _ => ?_⟩
    refine both_fail (e := -1000000002) hRel (by decide) (by decide) (by decide) (VM := fun τ Q => V_M_restore τ Q) (fun Q hQ => ?_)
    unfold V_M_restore
    rw [q2, z00]
    exact ⟨fun w => absurd rfl w, fun _ => hQ⟩
  · rw [q1]
    refine ⟨fun _ => ?_, fun w => absurd w n10⟩
    refine copyFrom_ok (by omega) q4 (fun s hP fs => ?_)
    unfold V_P_regard
    refine gather_ok (N := τ 2) q3.2.2.1 hP.1 q3.1 q3.2.1 hP.2.2.1 (fun s4 g4 f4 s5 h5 s6 h6 => ?_)
    have e6 : ∀ k, k ≠ 0 → k ≠ 23 → s6 k = s4 k := fun k a b => by rw [h6, ss_row _ a, h5, ss_row _ b]
    have e0 : ∀ j, j ≠ 8 → s6 0 j = s 0 j := fun j a => by rw [h6, ss_ne _ _ a, h5, ss_row _ (by decide), f4 0 (by omega)]
    have G6 : GC s6 (stS (τ 2)) := GC.fe g4 (fun k a b => e6 k (by omega) (by omega))
    have P6 : PR s6 1 (τ 2) := hP.fr (fun k a b => by rw [e6 k (by omega) (by omega), f4 k (by omega)])
    refine replay_ok q3 P6 G6 (fun u v1 v2 v3 => ?_)
    have fr : ∀ k, k ≠ 0 → (7 ≤ k ∧ k ≤ 15 ∨ 41 ≤ k) → u k = σ k := fun k a b => by
      rw [v3.1 k a (by simp only [List.mem_cons, List.not_mem_nil, or_false]; omega), e6 k a (by omega), f4 k (by omega)]
      exact fs k (by omega)
    have fr0 : ∀ j, j ≠ 8 → j ≠ 9 → u 0 j = σ 0 j := fun j a b => by rw [v3.2 j (by simp [b]), e0 j a, fs 0 (by omega)]
    have uP : PR u 1 (τ 2) := P6.fr (v3.r 1 6 (by decide) (by decide))
    have uG : GC u (stS (τ 2)) := G6.fe (v3.r 16 21 (by decide) (by decide))
    unfold V_M_restore
    rw [q2]
    refine ⟨fun _ => Mcopy_ok (by decide) (fun t t1 ft => ?_), fun w => absurd w n10⟩
    obtain ⟨n1, n2, n3, n4⟩ := planOk_congr (N' := t 1) q3 t1
    refine Mlists_ok n1.2.2.1 n1.1 n1.2.1 (fun m gm fm => ?_)
    have gm' : GM m (stS (t 1)) := gm
    have m1 : m 1 = t 1 := fm.1 1 (by decide) (by decide)
    have fm' : ∀ k, k ≠ 0 → k ≠ 1 → k ∉ gmK → m k = τ k := fun k a b c => by rw [fm.1 k a c]; exact ft k b
    have fj : ∀ j, j ≠ 5 → m 0 j = τ 0 j := fun j a => by rw [fm.2 j (by simp [a]), ft 0 (by decide)]
    refine ⟨by rw [uP.2.1, m1, t1 1 (by decide) (by decide)], ⟨?_, ?_⟩⟩
    · exact (hRel.1.fc (fun k h => fr k (by omega) (by omega)) (fr0 3 (by decide) (by decide))).fm (fm' 2 (by decide) (by decide) (by decide)) (fm' 4 (by decide) (by decide) (by decide)) (fm' 10 (by decide) (by decide) (by decide)) (fm' 24 (by decide) (by decide) (by decide)) (fm' 25 (by decide) (by decide) (by decide)) (fm' 26 (by decide) (by decide) (by decide)) (fj 3 (by decide)) (fj 12 (by decide))
    · unfold RelP
      rw [m1]
      refine ⟨n1, PR_congr uP t1, by rw [n2]; exact uG, gm', by rw [n3]; exact v1, by rw [n4]; exact v2, Or.inl ?_, Or.inl ?_⟩
      · rw [v3.2 8 (by decide), h6, ss_at]
      · rw [v3.1 23 (by decide) (by decide), h6, ss_row _ (by decide), h5, ss_at]

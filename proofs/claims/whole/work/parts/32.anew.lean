-- ANEW
def planB (N : Int → Int) : Prop := 2 ≤ N 0 ∧ N 0 ≤ 8 ∧ heldOk N ∧ (∀ r g, 0 ≤ r → r < 12 → N 0 - 1 ≤ g → g < 7 → N (2 + 7 * r + g) = -1) ∧ (∀ k, 0 ≤ k → k < 6 → wordOk N k) ∧ (∀ t, 0 ≤ t → t < 16 → 0 ≤ N (140 + t) ∧ N (140 + t) ≤ 9999)
def zN (N : Int → Int) : Int → Int := fun i => if i = 1 then 0 else N i
theorem zN_ne (N : Int → Int) {i : Int} (h : i ≠ 1) : zN N i = N i := by unfold zN; rw [if_neg h]
theorem planOk.b {N : Int → Int} (h : planOk N) : planB N := ⟨h.1, h.2.1, h.2.2.1, h.2.2.2.1, h.2.2.2.2.1, h.2.2.2.2.2.1⟩
theorem zN_ok {N : Int → Int} (h : planB N) : planOk (zN N) ∧ stS (zN N) = stS N := by
  obtain ⟨h1, h2, h3, h4, h5, h6⟩ := h
  refine ⟨⟨?_, ?_, ⟨fun k x y => ?_, fun r g x1 x2 x3 x4 => ?_⟩, fun r g x1 x2 x3 x4 => ?_, fun k x y => ?_, fun t x y => ?_, ?_, ?_, fun k hk => ?_⟩, stS_congr (zN_ne N (by decide)) h2 (fun i x y => zN_ne N (by omega))⟩
  · rw [zN_ne N (by decide)]; exact h1
  · rw [zN_ne N (by decide)]; exact h2
  · rw [zN_ne N (by omega)]; exact h3.1 k x y
  · rw [zN_ne N (by omega), zN_ne N (by omega)]; exact h3.2 r g x1 x2 x3 x4
  · rw [zN_ne N (by decide)] at x3
    rw [zN_ne N (by omega)]
    exact h4 r g x1 x2 x3 x4
  · obtain ⟨w1, w2, w3⟩ := h5 k x y
    unfold wordOk
    rw [zN_ne N (by omega)]
    refine ⟨w1, w2, fun i z1 z2 => ?_⟩
    rw [zN_ne N (by omega)]
    exact w3 i z1 z2
  · rw [zN_ne N (by omega)]; exact h6 t x y
  · show (0 : Int) ≤ 0; decide
  · show (0 : Int) ≤ _; omega
  · have : (k : Int) < 0 := hk
    omega
theorem PR_z {σ σ' : St} {N : Int → Int} (h : PR σ 1 N) (e6 : σ' 1 6 = 0) (e0 : σ' 1 0 = σ 1 0) (e : ∀ k, 2 ≤ k → k ≤ 6 → σ' k = σ k) : PR σ' 1 (zN N) := by
  obtain ⟨z1, z2, z3, z4, z5, z6⟩ := h
  refine ⟨by rw [e0, zN_ne N (by decide)]; exact z1, e6, fun k x y => ?_, fun k x y => ?_, fun k x y => ?_, fun k x y => ?_⟩
  · rw [e _ (by decide) (by decide), zN_ne N (by omega)]; exact z3 k x y
  · rw [e _ (by decide) (by decide), e _ (by decide) (by decide), zN_ne N (by omega)]
    refine ⟨(z4 k x y).1, fun i a b => ?_⟩
    rw [zN_ne N (by omega)]
    exact (z4 k x y).2 i a b
  · rw [e _ (by decide) (by decide), zN_ne N (by omega)]; exact z5 k x y
  · rw [e _ (by decide) (by decide), zN_ne N (by omega)]; exact z6 k x y
theorem anew_ok {σ : St} {N : Int → Int} {Q : St → Prop} (hb : planB N) (hP : σ 1 0 = N 0) (hc : ∀ k, 0 ≤ k → k < 84 → σ 2 k = N (2 + k)) (h : ∀ σ', (∀ τ', RelA σ' τ' → τ' 1 = zN N → PR σ' 1 (zN N) → GM τ' (stS N) → Rel σ' τ') → σ' 1 6 = 0 → σ' 1 0 = σ 1 0 → σ' 16 0 = (stS N).length → (∀ k, (2 ≤ k ∧ k ≤ 15) ∨ (53 ≤ k ∧ k ≤ 64) → σ' k = σ k) → σ' 0 3 = σ 0 3 → Q σ') : V_P_beginAnew σ Q := by
  obtain ⟨n1, n2⟩ := zN_ok hb
  unfold V_P_beginAnew
  intro s1 h1
  refine clear_ok (fun s2 c2 f2 s3 h3 => ?_)
  unfold V_P_regard
  have e3 : ∀ k, k ≠ 0 → k ≠ 1 → (k < 29 ∨ 40 < k) → s3 k = σ k := fun k a b c => by rw [h3, ss_row _ a, f2 k (by omega), h1, ss_row _ b]
  have e31 : s3 1 = ss σ 1 6 0 1 := by rw [h3, ss_row _ (by decide), f2 1 (by omega), h1]
  refine gather_ok (N := N) hb.2.2.1 (by rw [e31, ss_ne _ _ (by decide)]; exact hP) hb.1 hb.2.1 (fun k a b => by rw [e3 2 (by decide) (by decide) (by omega)]; exact hc k a b) (fun s4 g4 f4 s5 h5 s6 h6 => ?_)
  have e6 : ∀ k, k ≠ 0 → k ≠ 23 → s6 k = s4 k := fun k a b => by rw [h6, ss_row _ a, h5, ss_row _ b]
  have fr6 : ∀ k, k ≠ 0 → k ≠ 1 → (k < 16 ∨ 40 < k) → s6 k = σ k := fun k a b c => by rw [e6 k a (by omega), f4 k (by omega), e3 k a b (by omega)]
  have e61 : s6 1 = ss σ 1 6 0 1 := by rw [e6 1 (by decide) (by decide), f4 1 (by omega), e31]
  have g6 : GC s6 (stS N) := GC.fe g4 (fun k a b => e6 k (by omega) (by omega))
  refine h s6 (fun τ' hA ht hP' hG => ⟨hA, ?_⟩) (by rw [e61, ss_at]) (by rw [e61, ss_ne _ _ (by decide)]) g6.1 (fun k hk => fr6 k (by omega) (by omega) (by omega)) ?_
  · unfold RelP
    rw [ht, n2]
    refine ⟨n1, hP', g6, hG, ?_, ?_, Or.inl ?_, Or.inl ?_⟩
    · show CW s6 29 aw0
      exact c2.fe (fun k a b => by rw [e6 k (by omega) (by omega), f4 k (by omega), h3, ss_row _ (by omega)])
    · show s6 0 9 = 0
      rw [h6, ss_ne _ _ (by decide), h5, ss_row _ (by decide), f4 0 (by omega), h3, ss_at]
    · rw [h6, ss_at]
    · rw [h6, ss_row _ (by decide), h5, ss_at]
  · rw [h6, ss_ne _ _ (by decide), h5, ss_row _ (by decide), f4 0 (by omega), h3, ss_ne _ _ (by decide), f2 0 (by omega), h1, ss_row _ (by decide)]
theorem Manew_ok {τ : St} {Q : St → Prop} (hb : planB (τ 1)) (h : ∀ τ', τ' 1 = zN (τ 1) → GM τ' (stS (τ 1)) → (∀ k, k ≠ 0 → k ≠ 1 → k ∉ gmK → τ' k = τ k) → (∀ j, j ≠ 5 → τ' 0 j = τ 0 j) → Q τ') : V_M_anew τ Q := by
  obtain ⟨n1, n2⟩ := zN_ok hb
  unfold V_M_anew
  intro t1 h1
  have e1 : t1 1 = zN (τ 1) := by rw [h1, ss_self]; rfl
  refine Mlists_ok (by rw [e1]; exact n1.2.2.1) (by rw [e1]; exact n1.1) (by rw [e1]; exact n1.2.1) (fun t2 g2 f2 => ?_)
  rw [e1] at g2
  have g2' : GM t2 (stS (zN (τ 1))) := g2
  rw [n2] at g2'
  refine h t2 (by rw [f2.1 1 (by decide) (by decide)]; exact e1) g2' (fun k a b c => by rw [f2.1 k a c, h1, ss_row _ b]) (fun j c => by rw [f2.2 j (by simp [c]), h1, ss_row _ (by decide)])
/-- both begin anew, with the plan N -/
theorem both_anew {σ s τ t : St} {N : Int → Int} {r r' : Int} (hA : RelA s t) (hb : planB N) (hP : PR s 1 N) (ht : t 1 = N) (hr : i32 r = i32 r') {VM : (Int → St → Prop) → Prop} (hVM : ∀ Q : Int → St → Prop, V_M_anew t (fun τ' => Q r' τ') → VM Q) : V_P_beginAnew s (fun σ' => VM (fun r' τ' => i32 r = i32 r' ∧ Rel σ' τ')) := by
  refine anew_ok hb hP.1 hP.2.2.1 (fun σ' hR' e16 e10 e160 fr e03 => hVM _ ?_)
  refine Manew_ok (by rw [ht]; exact hb) (fun τ' m1 m2 m3 m4 => ⟨hr, ?_⟩)
  rw [ht] at m1 m2
  refine hR' τ' ?_ m1 (PR_z hP e16 e10 (fun k a b => fr k (by omega))) m2
  exact (hA.fc (fun k hk => fr k (by omega)) e03).fm (m3 2 (by decide) (by decide) (by decide)) (m3 4 (by decide) (by decide) (by decide)) (m3 10 (by decide) (by decide) (by decide)) (m3 24 (by decide) (by decide) (by decide)) (m3 25 (by decide) (by decide) (by decide)) (m3 26 (by decide) (by decide) (by decide)) (m4 3 (by decide)) (m4 12 (by decide))
theorem planB.cells {N N' : Int → Int} (h : planB N) (h0 : 2 ≤ N' 0) (h8 : N' 0 ≤ 8) (hN : heldOk N') (hb : ∀ r g, 0 ≤ r → r < 12 → N' 0 - 1 ≤ g → g < 7 → N' (2 + 7 * r + g) = -1) (e : ∀ i, 86 ≤ i → N' i = N i) : planB N' := by
  refine ⟨h0, h8, hN, hb, fun k x y => ?_, fun t x y => ?_⟩
  · obtain ⟨w1, w2, w3⟩ := h.2.2.2.2.1 k x y
    unfold wordOk
    rw [e _ (by omega)]
    refine ⟨w1, w2, fun i z1 z2 => ?_⟩
    rw [e _ (by omega)]
    exact w3 i z1 z2
  · rw [e _ (by omega)]
    exact h.2.2.2.2.2 t x y
theorem PR.cells {σ σ' : St} {N N' : Int → Int} (h : PR σ 1 N) (e0 : σ' 1 0 = N' 0) (e1 : σ' 1 6 = N' 1) (ec : ∀ k, 0 ≤ k → k < 84 → σ' 2 k = N' (2 + k)) (e : ∀ i, 86 ≤ i → N' i = N i) (eC : ∀ k, 3 ≤ k → k ≤ 6 → σ' k = σ k) : PR σ' 1 N' := by
  obtain ⟨z1, z2, z3, z4, z5, z6⟩ := h
  refine ⟨e0, e1, ec, fun k x y => ?_, fun k x y => ?_, fun k x y => ?_⟩
  · rw [eC _ (by decide) (by decide), eC _ (by decide) (by decide), e _ (by omega)]
    refine ⟨(z4 k x y).1, fun i a b => ?_⟩
    rw [e _ (by omega)]
    exact (z4 k x y).2 i a b
  · rw [eC _ (by decide) (by decide), e _ (by omega)]; exact z5 k x y
  · rw [eC _ (by decide) (by decide), e _ (by omega)]; exact z6 k x y
def prN (N : Int → Int) (n : Int) : Int → Int := fun i => if i = 0 then n else if 2 ≤ i ∧ i < 86 then -1 else N i
theorem op_pairs {σ τ : St} (hR : Rel σ τ) {a1 : Int} (r1 : i32 a1 = a1) : V_P_pairs σ a1 (fun r σ' => V_M_pairs τ a1 (fun r' τ' => i32 r = i32 r' ∧ Rel σ' τ')) := by
  have p1 := hR.2.1
  have p2 := hR.2.2.1
  have c2 : i64 2 = 2 := i64_id (by decide) (by decide)
  have c8 : i64 8 = 8 := i64_id (by decide) (by decide)
  have bad : ¬ (2 ≤ a1 ∧ a1 ≤ 8) → V_P_fail σ 1 (fun r σ' => V_M_pairs τ a1 (fun r' τ' => i32 r = i32 r' ∧ Rel σ' τ')) := by
    intro hc
    refine both_fail (e := -1000000001) hR (by decide) (by decide) (by decide) (VM := fun τ Q => V_M_pairs τ a1 Q) (fun Q hQ => ?_)
    unfold V_M_pairs
    rw [r1]
    exact in_ok (i64_of32 r1) c2 c8 (fun z => absurd z hc) (fun _ => ⟨fun w => absurd z00 w, fun _ => hQ⟩)
  unfold V_P_pairs
  rw [r1]
  refine ⟨fun z => bad (by omega), fun z => ⟨fun y => ?_, fun y => bad (by omega)⟩⟩
  intro x hx s4 h4
  refine fillI_ok (by decide) ?_
  have e0 : prN (τ 1) a1 0 = a1 := by unfold prN; rw [if_pos rfl]
  have e86 : ∀ i, 86 ≤ i → prN (τ 1) a1 i = τ 1 i := fun i h => by unfold prN; rw [if_neg (by omega), if_neg (by omega)]
  have e1 : prN (τ 1) a1 1 = τ 1 1 := by unfold prN; rw [if_neg (by decide), if_neg (by omega)]
  have ec : ∀ i, 2 ≤ i → i < 86 → prN (τ 1) a1 i = -1 := fun i h h' => by unfold prN; rw [if_neg (by omega), if_pos ⟨h, h'⟩]
  have hb : planB (prN (τ 1) a1) := p1.b.cells (by rw [e0]; exact z) (by rw [e0]; exact y) ⟨fun k a b => by rw [ec _ (by omega) (by omega)]; decide, fun r g a b c d => by rw [ec _ (by omega) (by omega), ec _ (by omega) (by omega)]; omega⟩ (fun r g a b c d => ec _ (by omega) (by omega)) e86
  have fr5 : ∀ k, k ≠ 1 → k ≠ 2 → sf s4 2 (fun i => if 0 ≤ i ∧ i < ((84 : Nat) : Int) then -1 else s4 2 i) k = σ k := fun k a b => by rw [sf_row _ b, h4, ss_row _ a]
  refine both_anew (t := sf τ 1 (prN (τ 1) a1)) (r' := τ 1 0) (N := prN (τ 1) a1) (σ := σ) (τ := τ) ?_ hb ?_ (sf_at _ _ _) (by rw [hx, hR.pl.1]) (VM := fun Q => V_M_pairs τ a1 Q) (fun Q hQ => ?_)
  · exact (hR.1.fc (fun k hk => fr5 k (by omega) (by omega)) (by rw [fr5 0 (by decide) (by decide)])).fm (sf_row _ (by decide) _) (sf_row _ (by decide) _) (sf_row _ (by decide) _) (sf_row _ (by decide) _) (sf_row _ (by decide) _) (sf_row _ (by decide) _) (by rw [sf_row _ (by decide)]) (by rw [sf_row _ (by decide)])
  · refine p2.cells ?_ ?_ (fun k a b => ?_) e86 (fun k a b => fr5 k (by omega) (by omega))
    · rw [sf_row _ (by decide), h4, ss_at, e0]
    · rw [sf_row _ (by decide), h4, ss_ne _ _ (by decide), e1]; exact p2.2.1
    · rw [sf_at, ec _ (by omega) (by omega)]
      exact if_pos ⟨a, b⟩
  · unfold V_M_pairs
    rw [r1]
    refine in_ok (i64_of32 r1) c2 c8 (fun _ => ⟨fun _ x' hx' t4 g4 => ?_, fun w => absurd w n10⟩) (fun w => absurd ⟨z, y⟩ w)
    rw [hx']
    refine wl1 (fun i u => 0 ≤ i ∧ i ≤ 84 ∧ u = sf τ 1 (fun j => if j = 0 then a1 else if 2 ≤ j ∧ j < 2 + i then -1 else τ 1 j)) (fun i _ => (84 - i).toNat) ⟨by omega, by omega, ?_⟩ ?_
    · rw [g4]
      funext k j
      unfold ss sf
      by_cases hk : k = 1
      · subst hk
        simp only [if_true]
        by_cases hj : j = 0
        · rw [if_pos hj, if_pos hj]
        · rw [if_neg hj, if_neg hj, if_neg (by omega)]
      · rw [if_neg hk, if_neg hk]
    · intro bk i u hI hbk
      obtain ⟨i1, i2, i3⟩ := hI
      rw [i32_id (x := i) (by omega) (by omega), i32_id (x := 2 + i) (by omega) (by omega)]
      refine ⟨fun hc => ?_, fun hc => ⟨⟨by omega, by omega⟩, fun u' hu' => hbk _ _ ⟨by omega, by omega, ?_⟩ (by omega)⟩⟩
      · have : i = 84 := by omega
        subst this
        rw [i3]
        exact hQ
      · rw [hu', i3]
        funext k j
        unfold ss sf
        by_cases hk : k = 1
        · subst hk
          simp only [if_true]
          by_cases hj : j = 2 + i
          · rw [if_pos hj, if_neg (by omega), if_pos (by omega)]
          · rw [if_neg hj]
            by_cases h0 : j = 0
            · rw [if_pos h0, if_pos h0]
            · rw [if_neg h0, if_neg h0]
              by_cases hq : 2 ≤ j ∧ j < 2 + i
              · rw [if_pos hq, if_pos (by omega)]
              · rw [if_neg hq, if_neg (by omega)]
        · rw [if_neg hk, if_neg hk, if_neg hk]

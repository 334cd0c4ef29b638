-- what depends on what
theorem gRow_congr {N N' : Int → Int} {S : List GR} {r : Nat} (hr : r < 12) (h : ∀ i, 2 ≤ i → i < 86 → N' i = N i) (n : Nat) (hn : n ≤ 7) : gRow N' S r n = gRow N S r n := by
  induction n with
  | zero => rfl
  | succ n ih =>
    unfold gRow
    rw [ih (by omega), h (2 + 7 * r + n) (by omega) (by omega)]
theorem gAll_congr {N N' : Int → Int} {gaps : Nat} (hg : gaps ≤ 7) (h : ∀ i, 2 ≤ i → i < 86 → N' i = N i) (n : Nat) (hn : n ≤ 12) : gAll N' gaps n = gAll N gaps n := by
  induction n with
  | zero => rfl
  | succ n ih =>
    unfold gAll
    rw [ih (by omega), gRow_congr (by omega) h gaps hg]
theorem stS_congr {N N' : Int → Int} (h0 : N' 0 = N 0) (h8 : N 0 ≤ 8) (h : ∀ i, 2 ≤ i → i < 86 → N' i = N i) : stS N' = stS N := by
  unfold stS
  rw [h0]
  exact gAll_congr (by omega) h 12 (by omega)
theorem awN_congr {w : AW} {f f' : Int → Int} {g b : Int} (n : Nat) (h : ∀ i : Nat, i < n → f' i = f i) : awN w f' g b n = awN w f g b n := by
  induction n with
  | zero => rfl
  | succ n ih =>
    unfold awN
    rw [ih (fun i hi => h i (by omega)), h n (by omega)]
theorem awS_congr {N N' : Int → Int} {w : AW} {k g b : Int} (hk : 0 ≤ k) (hk2 : k < 6) (hw : wordOk N k) (h : ∀ i, 86 ≤ i → i < 140 → N' i = N i) : awS N' w k g b = awS N w k g b := by
  unfold awS
  have h8 := hw.2.1
  rw [h (86 + 9 * k) (by omega) (by omega)]
  exact awN_congr _ (fun i hi => h _ (by omega) (by omega))
theorem awQ_congrN {N N' gp kd : Int → Int} {wk wk' : Nat → Int} {many : Int} (hst : stOk N gp kd many) (h : ∀ i, 86 ≤ i → i < 140 → N' i = N i) (n : Nat) (hw : ∀ i, i < n → 0 ≤ wk i ∧ wk i < many) (he : ∀ i, i < n → wk' i = wk i) : awQ N' gp kd wk' n = awQ N gp kd wk n := by
  induction n with
  | zero => rfl
  | succ n ih =>
    have h1 := hw n (by omega)
    have h2 := hst.2.2.1 _ h1.1 h1.2
    unfold awQ
    rw [ih (fun i hi => hw i (by omega)) (fun i hi => he i (by omega)), he n (by omega)]
    exact awS_congr h2.1 h2.2.1 (hst.2.2.2 _ h2.1 h2.2.1) h
theorem wsN_congr {N N' : Int → Int} (n : Nat) (h : ∀ i : Nat, i < n → N' (156 + i) = N (156 + i)) : wsN N' n = wsN N n ∧ wsI N' n = wsI N n := by
  induction n with
  | zero => exact ⟨rfl, rfl⟩
  | succ n ih =>
    obtain ⟨i1, i2⟩ := ih (fun i hi => h i (by omega))
    unfold wsN wsI
    rw [i1, i2, h n (by omega)]
    exact ⟨rfl, rfl⟩
-- THE WORK's order
theorem wk_rng {N : Int → Int} (h : planOk N) {i : Nat} (hi : (i : Int) < N 1) : 0 ≤ N (156 + i) ∧ N (156 + i) < (stS N).length ∧ N (156 + i) < 48 := by
  have := h.2.2.2.2.2.2.2.2 i hi
  have := (stS_ok h).2.1
  omega
theorem ws_bits {N : Int → Int} (h : planOk N) (n : Nat) (hn : (n : Int) ≤ N 1) : wsI N n = wsN N n ∧ wsN N n < 2 ^ 48 ∧ ∀ i, (wsN N n).testBit i = true ↔ ∃ k : Nat, k < n ∧ N (156 + k) = i :=
  wsI_ok n (fun k hk => by have := wk_rng h (i := k) (by omega); omega)
theorem wk_near {N : Int → Int} (h : planOk N) {n : Nat} (hn : (n : Int) ≤ N 1) {s : Int} (h1 : 0 ≤ s) (h2 : s < (stS N).length) (hs : (wsN N n).testBit s.toNat = false) : ∀ j, j < n → adjg (gS (stS N) (N (156 + (j : Nat)))) (gS (stS N) s) → rS (stS N) (N (156 + (j : Nat))) < rS (stS N) s := by
  intro j hj ha
  obtain ⟨o1, o2, o3, o4⟩ := stS_ok h
  have hjr := wk_rng h (i := j) (by omega)
  obtain ⟨x, x1, x2, x3, x4, x5⟩ := S_at h1 h2
  obtain ⟨y, y1, y2, y3, y4, y5⟩ := S_at hjr.1 hjr.2.1
  obtain ⟨s', hs'⟩ : ∃ s', s' = N (156 + (j : Nat)) := ⟨_, rfl⟩
  rw [← hs'] at hjr y1 y2 y3 y4 y5 ha ⊢
  rw [x2, y2] at ha
  rw [x4, y4]
  have hne : s ≠ s' := by
    intro e
    have := ((ws_bits h n hn).2.2 s.toNat).mpr ⟨j, hj, by rw [← hs']; omega⟩
    rw [hs] at this
    cases this
  unfold adjg at ha
  rcases Int.lt_trichotomy s s' with c | c | c
  · have := o4 s.toNat s'.toNat x y (by omega) x1 y1
    rcases this with e | ⟨e1, e2⟩
    · -- s is ahead of s', which was worked: so s was
      exfalso
      obtain ⟨m, m1, m2, m3⟩ := o3 s'.toNat y y1
      have hb : m.testBit s.toNat = true := (m3 s.toNat).mpr ⟨s.toNat, x, by omega, x1, e, by unfold adjg; omega, Or.inl rfl⟩
      have hw := h.2.2.2.2.2.2.2.2 j (by omega)
      have hb2 : (bS (stS N) (N (156 + (j : Nat)))).testBit s.toNat = true := by
        rw [← hs', y5, m1]
        exact hb
      have hb3 := hw.2.2.2 s.toNat hb2
      obtain ⟨k, k1, k2⟩ := ((ws_bits h j (by omega)).2.2 s.toNat).mp hb3
      have := ((ws_bits h n hn).2.2 s.toNat).mpr ⟨k, by omega, k2⟩
      rw [hs] at this
      cases this
    · omega
  · exact absurd c hne
  · have := o4 s'.toNat s.toNat y x (by omega) y1 x1
    rcases this with e | ⟨e1, e2⟩
    · exact e
    · omega
theorem wk_ord {N : Int → Int} (h : planOk N) {n : Nat} (hn : (n : Int) ≤ N 1) : ordOk (stS N) (fun i => N (156 + i)) n := by
  intro j k hjk hk ha
  have hkr := wk_rng h (i := k) (by omega)
  have hw := h.2.2.2.2.2.2.2.2 k (by omega)
  exact wk_near h (n := k) (by omega) hkr.1 hkr.2.1 hw.2.2.1 j hjk ha
theorem rS_nn {N : Int → Int} (h : planOk N) {s : Int} (h1 : 0 ≤ s) (h2 : s < (stS N).length) : 0 ≤ rS (stS N) s ∧ rS (stS N) s < 12 := by
  obtain ⟨o1, -⟩ := stS_ok h
  obtain ⟨x, x1, x2, x3, x4, x5⟩ := S_at h1 h2
  have := o1 _ x x1
  rw [x4]
  omega
theorem al_ord {N : Int → Int} (h : planOk N) {n : Nat} (hn : n ≤ (stS N).length) : ordOk (stS N) (fun i => (i : Int)) n := by
  intro j k hjk hk ha
  obtain ⟨o1, o2, o3, o4⟩ := stS_ok h
  obtain ⟨x, x1, x2, x3, x4, x5⟩ := S_at (S := stS N) (s := (j : Int)) (by omega) (by omega)
  obtain ⟨y, y1, y2, y3, y4, y5⟩ := S_at (S := stS N) (s := (k : Int)) (by omega) (by omega)
  rw [x2, y2] at ha
  rw [x4, y4]
  unfold adjg at ha
  have := o4 (j : Int).toNat (k : Int).toNat x y (by omega) x1 y1
  omega
theorem PR_wd {σ : St} {N : Int → Int} (h : PR σ 1 N) {k : Int} (h1 : 0 ≤ k) (h2 : k < 6) : wdRel σ N k := ⟨(h.2.2.2.1 k h1 h2).1, (h.2.2.2.1 k h1 h2).2⟩
abbrev dnK : List Nat := [29, 30, 31, 32, 33, 34, 35, 36, 37, 38, 39, 40]
abbrev thK : List Nat := [41, 42, 43, 44, 45, 46, 47, 48, 49, 50, 51, 52]
theorem dn_frm {J : List Int} {σ σ' : St} (h : cfr 29 40 σ σ') : frm dnK J σ σ' := h.frm (by decide) (by decide)
theorem th_frm {J : List Int} {σ σ' : St} (h : cfr 41 52 σ σ') : frm thK J σ σ' := h.frm (by decide) (by decide)
theorem frm.e {K : List Nat} {J : List Int} {σ σ' : St} (h : frm K J σ σ') (k : Nat) (h0 : k ≠ 0) (hk : k ∉ K) : σ' k = σ k := h.1 k h0 hk
theorem frm.r {K : List Nat} {J : List Int} {σ σ' : St} (h : frm K J σ σ') (lo hi : Nat) (h0 : 0 < lo) (hK : ∀ k ∈ List.range (hi + 1), lo ≤ k → k ∉ K) : ∀ k, lo ≤ k → k ≤ hi → σ' k = σ k := fun k a b => h.1 k (by omega) (hK k (List.mem_range.mpr (by omega)) a)
/-- one stitch more, worked by the class -/
theorem make_st {σ : St} {o : Nat} {N : Int → Int} {wk : Nat → Int} {n : Nat} {s : Int} {Q : St → Prop} (ho : 6 < o) (hp : planOk N) (hP : PR σ 1 N) (hw : ∀ i, i < n → 0 ≤ wk i ∧ wk i < (stS N).length) (hn : n < 48) (hord : ordOk (stS N) wk n) (hC : CW σ o (awQ N (gS (stS N)) (kS (stS N)) wk n)) (h1 : 0 ≤ s) (h2 : s < (stS N).length) (hs : ∀ j, j < n → adjg (gS (stS N) (wk j)) (gS (stS N) s) → rS (stS N) (wk j) < rS (stS N) s)
    (k : ∀ σ', CW σ' o (awS N (awQ N (gS (stS N)) (kS (stS N)) wk n) (kS (stS N) s) (gS (stS N) s) s) → cfr o (o + 11) σ σ' → Q σ') : V_Weave_make o σ (kS (stS N) s) (gS (stS N) s) Q := by
  have hst := plan_st hp
  have hsr := hst.2.2.1 s h1 h2
  have hr := rS_nn hp h1 h2
  have hlen := awQ_len hst n hw
  refine make_ok (b := s) (B := 8 * rS (stS N) s) ho hC (awQ_g hst n hw) hsr.1 hsr.2.1 hsr.2.2.1 hsr.2.2.2 (hst.2.2.2 _ hsr.1 hsr.2.1) (PR_wd hP hsr.1 hsr.2.1) (by omega) (fun q a b => ?_) (by omega) k
  exact hgt_near hst n hw (fun i hi => (rS_nn hp (hw i hi).1 (hw i hi).2).1) hord hr.1 hs q a b
theorem replay_ok {σ : St} {N : Int → Int} {Q : St → Prop} (hp : planOk N) (hP : PR σ 1 N) (hG : GC σ (stS N)) (k : ∀ σ', CW σ' 29 (wkA N) → σ' 0 9 = wsI N (N 1).toNat → frm dnK [9] σ σ' → Q σ') : V_P_replay σ Q := by
  have hl := (stS_ok hp).2.1
  have q7 := hp.2.2.2.2.2.2.1
  have q8 := hp.2.2.2.2.2.2.2.1
  unfold V_P_replay
  refine clear_ok (fun t1 c1 f1 t2 e2 => ?_)
  have g2 : frm dnK [9] σ t2 := (dn_frm f1).tr (by rw [e2]; exact frm.s0 (by decide))
  refine wl1 (fun i u => ∃ n : Nat, (n : Int) ≤ N 1 ∧ i = n ∧ CW u 29 (awQ N (gS (stS N)) (kS (stS N)) (fun i => N (156 + i)) n) ∧ u 0 9 = wsI N n ∧ frm dnK [9] σ u) (fun i _ => (N 1 - i).toNat) ⟨0, by omega, rfl, c1.fe (fun k a b => by rw [e2, ss_row _ (by omega)]), by rw [e2, ss_at]; rfl, g2⟩ ?_
  intro bk i u hI hb
  obtain ⟨n, hn, rfl, i3, i4, i5⟩ := hI
  have u1 : u 1 = σ 1 := i5.e 1 (by decide) (by decide)
  have u6 : u 6 = σ 6 := i5.e 6 (by decide) (by decide)
  have uP : PR u 1 N := hP.fr (i5.r 1 6 (by decide) (by decide))
  have e16 : σ 1 6 = N 1 := hP.2.1
  rw [u1, e16, i32_id (x := (n : Int)) (by omega) (by omega), i32_id (x := N 1) (by omega) (by omega)]
  refine ⟨fun hc => ?_, fun hc => ⟨⟨by omega, by omega⟩, fun s hs => ?_⟩⟩
  · have hnn : (N 1).toNat = n := by omega
    refine k u ?_ ?_ i5
    · unfold wkA
      rw [hnn]
      exact i3
    · rw [hnn]
      exact i4
  · have hr := wk_rng hp (i := n) hc
    have hw6 : σ 6 n = N (156 + n) := hP.2.2.2.2.2 n (by omega) (by omega)
    rw [u6, hw6] at hs
    rw [hs, i32_id (x := N (156 + n)) (by omega) (by omega)]
    have uG : u 18 (N (156 + n)) = gS (stS N) (N (156 + n)) ∧ u 19 (N (156 + n)) = kS (stS N) (N (156 + n)) := by
      rw [i5.e 18 (by decide) (by decide), i5.e 19 (by decide) (by decide)]
      exact GC_at hG hr.1 hr.2.1
    rw [uG.1, uG.2]
    refine ⟨⟨by omega, by omega⟩, ⟨by omega, by omega⟩, ?_⟩
    have hwk : ∀ i, i < n → 0 ≤ N (156 + (i : Nat)) ∧ N (156 + (i : Nat)) < (stS N).length := fun i hi => by have := wk_rng hp (i := i) (by omega); omega
    have hfree := hp.2.2.2.2.2.2.2.2 n hc
    refine make_st (wk := fun i => N (156 + i)) (by decide) hp uP hwk (by omega) (wk_ord hp (by omega)) i3 hr.1 hr.2.1 (wk_near hp (by omega) hr.1 hr.2.1 hfree.2.2.1) (fun v m f w hw => ?_)
    refine hb _ _ ⟨n + 1, by omega, by omega, ?_, ?_, ?_⟩ (by omega)
    · exact m.fe (fun k a b => by rw [hw, ss_row _ (by omega)])
    · rw [hw, ss_at, f 0 (by omega), i4]
      rfl
    · rw [hw]
      exact (i5.tr (dn_frm f)).tr (frm.s0 (by decide))

theorem gRow_lt {N : Int → Int} {gaps n g : Nat} (hN : heldOk N) (hg : gaps ≤ 7) (hn : n < 12) (hgg : g < gaps) (hc : 0 ≤ N (2 + 7 * n + g)) : gOk (gRow N (gAll N gaps n) n g) ∧ (gRow N (gAll N gaps n) n g).length < 48 := by
  obtain ⟨a1, a2⟩ := gAll_ok hN hg n (by omega)
  obtain ⟨b1, b2, b3⟩ := gRow_ok hN a1 hn (g + 1) (by omega)
  obtain ⟨c1, _, _⟩ := gRow_ok hN a1 hn g (by omega)
  refine ⟨c1, ?_⟩
  have e : gRow N (gAll N gaps n) n (g + 1) = gNew (gRow N (gAll N gaps n) n g) n g (N (2 + 7 * n + g)) := by
    conv => lhs; unfold gRow
    rw [if_pos hc]
  rw [e, gNew_len] at b2
  omega
theorem gather_ok {σ : St} {N : Int → Int} {Q : St → Prop} (hN : heldOk N) (hp : σ 1 0 = N 0) (h2 : 2 ≤ N 0) (h8 : N 0 ≤ 8) (hc : ∀ k, 0 ≤ k → k < 84 → σ 2 k = N (2 + k))
    (h : ∀ σ', GC σ' (gAll N (N 0 - 1).toNat 12) → cfr 16 21 σ σ' → Q σ') : V_Ground_gather σ Q := by
  obtain ⟨gaps, hgaps⟩ : ∃ gaps : Nat, (gaps : Int) = N 0 - 1 := ⟨(N 0 - 1).toNat, by omega⟩
  have hg7 : gaps ≤ 7 := by omega
  have eg : (N 0 - 1).toNat = gaps := by omega
  rw [eg] at h
  unfold V_Ground_gather
  intro t1 h1 t2 h2'
  refine wl1 (fun i u => ∃ n : Nat, n ≤ 12 ∧ i = n ∧ GC u (gAll N gaps n) ∧ cfr 16 21 σ u) (fun i _ => (12 - i).toNat) ⟨0, by omega, rfl, ⟨?_, ?_, fun i x hx => by simp [gAll] at hx⟩, ?_⟩ ?_
  · rw [h2', ss_ne _ _ (by decide), h1, ss_at]; rfl
  · rw [h2', ss_at]; rfl
  · rw [h2', h1]; exact (cfr.s (by omega) (by omega)).tr (cfr.s (by omega) (by omega))
  · intro bk i u hI hb
    obtain ⟨n, hn, rfl, i3, i4⟩ := hI
    rw [i32_id (x := (n : Int)) (by omega) (by omega)]
    refine ⟨fun hc1 => ?_, fun hc1 => ?_⟩
    · have : n = 12 := by omega
      subst this
      exact h u i3 i4
    · refine wl1 (fun i v => ∃ g : Nat, g ≤ gaps ∧ i = g ∧ GC v (gRow N (gAll N gaps n) n g) ∧ cfr 16 21 σ v) (fun i _ => (gaps - i).toNat) ⟨0, by omega, rfl, i3, i4⟩ ?_
      intro bk2 i v hI hb2
      obtain ⟨g, hg, rfl, j3, j4⟩ := hI
      have v1 : v 1 0 = N 0 := by rw [j4 1 (by omega)]; exact hp
      rw [v1, i32_id (x := (g : Int)) (by omega) (by omega), i32_id (x := N 0 - 1) (by omega) (by omega), i32_id (x := (n : Int) * 7 + g) (by omega) (by omega)]
      refine ⟨fun hc2 => ?_, fun hc2 => ⟨⟨by omega, by omega⟩, fun k hk => ?_⟩⟩
      · have : g = gaps := by omega
        subst this
        exact hb _ _ ⟨n + 1, by omega, by omega, j3, j4⟩ (by omega)
      · rw [j4 2 (by omega), hc _ (by omega) (by omega), show (2 : Int) + (n * 7 + g) = 2 + 7 * n + g by omega] at hk
        have hb3 := hN.1 (7 * n + g) (by omega) (by omega)
        rw [show (2 : Int) + (7 * n + g) = 2 + 7 * n + g by omega, ← hk] at hb3
        rw [i32_id (x := k) (by omega) (by omega), j3.1]
        refine ⟨fun c1 => ?_, fun c1 => ?_⟩
        · refine hb2 _ _ ⟨g + 1, by omega, by omega, ?_, j4⟩ (by omega)
          have e : gRow N (gAll N gaps n) n (g + 1) = gRow N (gAll N gaps n) n g := by
            conv => lhs; unfold gRow
            rw [if_neg (by rw [← hk]; omega)]
          rw [e]
          exact j3
        · obtain ⟨l1, l2⟩ := gRow_lt hN hg7 (by omega : n < 12) (by omega : g < gaps) (by rw [← hk]; omega)
          rw [i32_id (x := ((gRow N (gAll N gaps n) n g).length : Int)) (by omega) (by omega)]
          refine ⟨fun c2 => by omega, fun c2 => enter_ok j3 l1 l2 (by omega) (by omega) (by omega) (by omega) (fun v' q1 q2 => ?_)⟩
          refine hb2 _ _ ⟨g + 1, by omega, by omega, ?_, j4.tr q2⟩ (by omega)
          have e : gRow N (gAll N gaps n) n (g + 1) = gNew (gRow N (gAll N gaps n) n g) n g (N (2 + 7 * n + g)) := by
            conv => lhs; unfold gRow
            rw [if_pos (by rw [← hk]; omega)]
          rw [e, ← hk]
          exact q1
theorem Mlists_ok {τ : St} {Q : St → Prop} (hN : heldOk (τ 1)) (h2 : 2 ≤ τ 1 0) (h8 : τ 1 0 ≤ 8)
    (h : ∀ τ', GM τ' (gAll (τ 1) (τ 1 0 - 1).toNat 12) → frm gmK gmJ τ τ' → Q τ') : V_M_lists τ Q := by
  obtain ⟨N, hNe⟩ : ∃ N, N = τ 1 := ⟨_, rfl⟩
  rw [← hNe] at hN h2 h8 h
  obtain ⟨gaps, hgaps⟩ : ∃ gaps : Nat, (gaps : Int) = N 0 - 1 := ⟨(N 0 - 1).toNat, by omega⟩
  have hg7 : gaps ≤ 7 := by omega
  have eg : (N 0 - 1).toNat = gaps := by omega
  rw [eg] at h
  unfold V_M_lists
  intro t1 h1
  refine wl1 (fun i u => ∃ n : Nat, n ≤ 12 ∧ i = n ∧ GM u (gAll N gaps n) ∧ frm gmK gmJ τ u) (fun i _ => (12 - i).toNat) ⟨0, by omega, rfl, ⟨?_, fun i x hx => by simp [gAll] at hx⟩, ?_⟩ ?_
  · rw [h1, ss_at]; rfl
  · rw [h1]; exact frm.s0 (by decide)
  · intro bk i u hI hb
    obtain ⟨n, hn, rfl, i3, i4⟩ := hI
    rw [i32_id (x := (n : Int)) (by omega) (by omega)]
    refine ⟨fun hc1 => ?_, fun hc1 => ?_⟩
    · have : n = 12 := by omega
      subst this
      exact h u i3 i4
    · refine wl1 (fun i v => ∃ g : Nat, g ≤ gaps ∧ i = g ∧ GM v (gRow N (gAll N gaps n) n g) ∧ frm gmK gmJ τ v) (fun i _ => (gaps - i).toNat) ⟨0, by omega, rfl, i3, i4⟩ ?_
      intro bk2 i v hI hb2
      obtain ⟨g, hg, rfl, j3, j4⟩ := hI
      have v1 : v 1 = N := by rw [hNe]; exact j4.1 1 (by decide) (by decide)
      dsimp only [V_M_gaps]
      rw [v1, i32_id (x := (g : Int)) (by omega) (by omega), i32_id (x := N 0 - 1) (by omega) (by omega)]
      refine ⟨fun hc2 => ?_, fun hc2 => ?_⟩
      · have : g = gaps := by omega
        subst this
        exact hb _ _ ⟨n + 1, by omega, by omega, j3, j4⟩ (by omega)
      · dsimp only [V_M_held]
        rw [i32_id (x := 2 + 7 * (n : Int) + g) (by omega) (by omega), v1]
        have hb3 := hN.1 (7 * n + g) (by omega) (by omega)
        rw [show (2 : Int) + (7 * n + g) = 2 + 7 * n + g by omega] at hb3
        rw [i32_id (x := N (2 + 7 * (n : Int) + g)) (by omega) (by omega)]
        refine ⟨⟨by omega, by omega⟩, fun c1 => ?_, fun c1 => ?_⟩
        · refine hb2 _ _ ⟨g + 1, by omega, by omega, ?_, j4⟩ (by omega)
          have e : gRow N (gAll N gaps n) n (g + 1) = gRow N (gAll N gaps n) n g := by
            conv => lhs; unfold gRow
            rw [if_neg (by omega)]
          rw [e]
          exact j3
        · obtain ⟨l1, l2⟩ := gRow_lt hN hg7 (by omega : n < 12) (by omega : g < gaps) c1
          refine Madd_ok j3 l1 l2 (by omega) (by omega) (by omega) (by omega) (fun v' q1 q2 => ?_)
          refine hb2 _ _ ⟨g + 1, by omega, by omega, ?_, j4.tr q2⟩ (by omega)
          have e : gRow N (gAll N gaps n) n (g + 1) = gNew (gRow N (gAll N gaps n) n g) n g (N (2 + 7 * n + g)) := by
            conv => lhs; unfold gRow
            rw [if_pos c1]
          rw [e]
          rw [v1] at q1
          exact q1

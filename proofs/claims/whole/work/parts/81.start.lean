-- AT THE START both agree
theorem gRow_none {N : Int → Int} (h : ∀ k, 2 ≤ k → k < 86 → N k = -1) {S : List GR} {r : Nat} (hr : r < 12) (n : Nat) (hn : n ≤ 7) : gRow N S r n = S := by
  induction n with
  | zero => rfl
  | succ n ih =>
    unfold gRow
    rw [h (2 + 7 * r + n) (by omega) (by omega), if_neg (by decide), ih (by omega)]
theorem gAll_none {N : Int → Int} (h : ∀ k, 2 ≤ k → k < 86 → N k = -1) {gaps : Nat} (hg : gaps ≤ 7) (n : Nat) (hn : n ≤ 12) : gAll N gaps n = [] := by
  induction n with
  | zero => rfl
  | succ n ih =>
    unfold gAll
    rw [gRow_none h (by omega) gaps hg, ih (by omega)]
theorem sN_w : ∀ k, k < 6 → sN (86 + 9 * k) = wdl (k : Nat) ∧ (1 ≤ sN (86 + 9 * k) ∧ sN (86 + 9 * k) ≤ 8) ∧ ∀ i, i < 8 → sN (87 + 9 * k + i) = wdc (k : Nat) (i : Nat) ∧ ((i : Int) < sN (86 + 9 * k) → sN (87 + 9 * k + i) = 99 ∨ sN (87 + 9 * k + i) = 67 ∨ sN (87 + 9 * k + i) = 116 ∨ sN (87 + 9 * k + i) = 84) := by decide +kernel
theorem sN_200 : ∀ i, i < 16 → sN (140 + i) = 200 := by decide +kernel
theorem sN_0 : ∀ i, i < 48 → sN (156 + i) = 0 := by decide +kernel
theorem CW_init {σ : St} {o : Nat} (h : PX6 (fun k => σ (o + k))) : CW σ o aw0 := by
  obtain ⟨a1, a2, a3, a4, a5, a6, a7, a8, b1, b2, b3⟩ := h
  refine ⟨fun i p q => (a2 i p q).1, fun t p q => ?_, ⟨fun t p q => ⟨a3 t, a4 t, a5 t, a6 t p q, a7 t⟩, fun x y _ _ _ _ => a8 _⟩, a1, b1, fun l p _ _ _ _ => ?_, fun p q r => ?_, fun p => by show (0 : Int) ≤ 96; decide⟩
  · have := (a2 t p q).2
    have e : σ (o + 2) t = t := this
    rw [e]
    exact ⟨p, q, rfl⟩
  · exact b2 _
  · exact b3 (p + 1) (by omega) (by omega)
theorem Rel_init {σ τ : St} (hC : PX7 σ) (hM : PX8 τ) : Rel σ τ := by
  obtain ⟨c1, c7, c13, c16, c23, c29, c41, c53, c57, c59, c61, c63, d3, d8, d9, d56⟩ := hC
  obtain ⟨m1, m2, m3, m12, m4, m24⟩ := hM
  obtain ⟨N, hN⟩ : ∃ N, N = τ 1 := ⟨_, rfl⟩
  rw [← hN] at m1 m2
  have n0 : N 0 = 4 := m1 0 (by decide)
  have n1 : N 1 = 0 := m1 1 (by decide)
  have nm : ∀ k, 2 ≤ k → k < 86 → N k = -1 := fun k a b => by
    obtain ⟨n, rfl⟩ : ∃ n : Nat, k = n := ⟨k.toNat, by omega⟩
    rw [m1 n (by omega), sN_m1 n (by omega) (by omega)]
  have hS : stS N = [] := by
    unfold stS
    exact gAll_none nm (by rw [n0]; decide) 12 (by decide)
  have nw : ∀ k, 0 ≤ k → k < 6 → N (86 + 9 * k) = wdl k ∧ wordOk N k ∧ ∀ i, 0 ≤ i → i < 8 → N (87 + 9 * k + i) = wdc k i := fun k a b => by
    obtain ⟨n, rfl⟩ : ∃ n : Nat, k = n := ⟨k.toNat, by omega⟩
    obtain ⟨s1, s2, s3⟩ := sN_w n (by omega)
    have e1 : N (86 + 9 * (n : Int)) = sN (86 + 9 * n) := by
      have := m1 (86 + 9 * n) (by omega)
      rw [show ((86 + 9 * n : Nat) : Int) = 86 + 9 * (n : Int) by omega] at this
      exact this
    have e2 : ∀ i : Nat, i < 8 → N (87 + 9 * (n : Int) + (i : Nat)) = sN (87 + 9 * n + i) := fun i hi => by
      have := m1 (87 + 9 * n + i) (by omega)
      rw [show ((87 + 9 * n + i : Nat) : Int) = 87 + 9 * (n : Int) + (i : Nat) by omega] at this
      exact this
    refine ⟨by rw [e1, s1], ⟨by rw [e1]; exact s2.1, by rw [e1]; exact s2.2, fun i p q => ?_⟩, fun i p q => ?_⟩
    · rw [e1] at q
      obtain ⟨j, rfl⟩ : ∃ j : Nat, i = j := ⟨i.toNat, by omega⟩
      rw [e2 j (by omega)]
      exact (s3 j (by omega)).2 q
    · obtain ⟨j, rfl⟩ : ∃ j : Nat, i = j := ⟨i.toNat, by omega⟩
      rw [e2 j (by omega)]
      exact (s3 j (by omega)).1
  have n140 : ∀ t, 0 ≤ t → t < 16 → N (140 + t) = 200 := fun t a b => by
    obtain ⟨n, rfl⟩ : ∃ n : Nat, t = n := ⟨t.toNat, by omega⟩
    have := m1 (140 + n) (by omega)
    rw [show ((140 + n : Nat) : Int) = 140 + (n : Int) by omega] at this
    rw [this, sN_200 n (by omega)]
  have n156 : ∀ t, 0 ≤ t → t < 48 → N (156 + t) = 0 := fun t a b => by
    obtain ⟨n, rfl⟩ : ∃ n : Nat, t = n := ⟨t.toNat, by omega⟩
    have := m1 (156 + n) (by omega)
    rw [show ((156 + n : Nat) : Int) = 156 + (n : Int) by omega] at this
    rw [this, sN_0 n (by omega)]
  have sh : ∀ i : Nat, i < 4 → σ (57 + 2 * i) 0 = -1 := fun i hi => by
    have hc : i = 0 ∨ i = 1 ∨ i = 2 ∨ i = 3 := by omega
    rcases hc with rfl | rfl | rfl | rfl
    · exact c57
    · exact c59
    · exact c61
    · exact c63
  have hp : planOk N := by
    refine ⟨by rw [n0]; decide, by rw [n0]; decide, sN_held m1, fun r g a b c d => nm _ (by omega) (by omega), fun k a b => (nw k a b).2.1, fun t a b => by rw [n140 t a b]; decide, by rw [n1]; decide, by rw [n1]; omega, fun k hk => by rw [n1] at hk; omega⟩
  refine ⟨⟨⟨?_, by rw [m12]; decide, by rw [m12]; decide, fun i a b => by rw [m12] at b; omega⟩, fun i hi => ?_, fun k a b => by rw [d56, m4], Or.inl ⟨d3, m3⟩⟩, ?_⟩
  · rw [m12]
    exact c53
  · rw [sh i hi, m24 i (by omega) (by omega)]
    exact ⟨rfl, by decide, by decide, fun z => absurd z (by decide)⟩
  · unfold RelP
    rw [← hN]
    obtain ⟨p1, p2, p3, p4, p5, p6⟩ := c1
    refine ⟨hp, ⟨by rw [n0]; exact p1, by rw [n1]; exact p2, fun k a b => by rw [nm (2 + k) (by omega) (by omega)]; exact p3 k a b, fun k a b => ⟨by rw [(nw k a b).1]; exact (p4 k a b).1, fun i c d => by rw [(nw k a b).2.2 i c d]; exact (p4 k a b).2 i c d⟩, fun t a b => by rw [n140 t a b]; exact p5 t a b, fun i a b => by rw [n156 i a b]; exact p6 i⟩, ?_, m2, ?_, ?_, Or.inl d8, Or.inl c23⟩
    · rw [hS]
      exact ⟨c16.1, c16.2, fun i x hx => by simp at hx⟩
    · have e : wkA N = aw0 := by
        unfold wkA
        rw [n1]
        rfl
      rw [e]
      exact CW_init c29
    · rw [n1]
      exact d9

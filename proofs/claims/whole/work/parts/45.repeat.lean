-- REPEAT
theorem deep_rng {N : Int → Int} (h : planOk N) : 0 ≤ gDeep (stS N) ∧ gDeep (stS N) ≤ 12 ∧ (gDeep (stS N) = 0 ↔ (stS N).length = 0) ∧ (0 < (stS N).length → gDeep (stS N) = rS (stS N) ((stS N).length - 1) + 1) := by
  obtain ⟨S, hS⟩ : ∃ S, S = stS N := ⟨_, rfl⟩
  have o1 := (stS_ok h).1
  rw [← hS] at o1 ⊢
  rcases List.eq_nil_or_concat S with e | ⟨L, x, e⟩
  · subst e
    exact ⟨Int.le_refl _, (by decide : (0 : Int) ≤ 12), ⟨fun _ => rfl, fun _ => rfl⟩, fun w => absurd w (by decide)⟩
  · have e' : S = L ++ [x] := by rw [e]; simp
    have hg : S[L.length]? = some x := by rw [e', List.getElem?_append_right (Nat.le_refl _)]; simp
    have hl : S.length = L.length + 1 := by rw [e']; simp
    have hd : gDeep S = x.1 + 1 := by unfold gDeep; rw [e']; simp
    have hx := o1 _ x hg
    refine ⟨by omega, by omega, ⟨fun w => by omega, fun w => by omega⟩, fun _ => ?_⟩
    rw [hd]
    unfold rS
    rw [show ((S.length : Int) - 1).toNat = L.length by omega, hg]
theorem Mdeep_ok {τ : St} {Q : Int → St → Prop} (hp : planOk (τ 1)) (h : GM τ (stS (τ 1))) (k : Q (gDeep (stS (τ 1))) τ) : V_M_deep τ Q := by
  obtain ⟨d1, d2, d3, d4⟩ := deep_rng hp
  have hl := (stS_ok hp).2.1
  unfold V_M_deep
  rw [h.1, i32_id (x := ((stS (τ 1)).length : Int)) (by omega) (by omega)]
  refine ⟨fun hc => ?_, fun hc => ?_⟩
  · rw [i32_id (x := ((stS (τ 1)).length : Int) - 1) (by omega) (by omega)]
    refine ⟨⟨by omega, by omega⟩, ?_⟩
    obtain ⟨x, x1, x2, x3, x4, x5⟩ := S_at (S := stS (τ 1)) (s := ((stS (τ 1)).length : Int) - 1) (by omega) (by omega)
    have := h.2 _ x x1
    rw [show ((((stS (τ 1)).length : Int) - 1).toNat : Int) = ((stS (τ 1)).length : Int) - 1 by omega] at this
    rw [this.1, ← x4, ← d4 (by omega)]
    exact k
  · have : gDeep (stS (τ 1)) = 0 := d3.mpr (by omega)
    rw [this] at k
    exact k
def rwE (N : Int → Int) (d r : Int) : Prop := ∀ g, 0 ≤ g → g < 7 → N (2 + 7 * r + g) = N (2 + 7 * (r - d) + g)
def rpE (N : Int → Int) (d deep : Int) : Prop := ∀ r, d ≤ r → r < deep → rwE N d r
theorem cell_rng {N : Int → Int} (h : planOk N) {r g : Int} (h1 : 0 ≤ r) (h2 : r < 12) (h3 : 0 ≤ g) (h4 : g < 7) : -1 ≤ N (2 + 7 * r + g) ∧ N (2 + 7 * r + g) ≤ 5 := by
  have := h.2.2.1.1 (7 * r + g) (by omega) (by omega)
  rw [show (2 : Int) + (7 * r + g) = 2 + 7 * r + g by omega] at this
  exact this
theorem repeatsBy_ok {σ : St} {N : Int → Int} {d deep : Int} {Q : Int → St → Prop} (hp : planOk N) (hc : ∀ k, 0 ≤ k → k < 84 → σ 2 k = N (2 + k)) (h1 : 1 ≤ d) (h2 : d ≤ deep) (h12 : deep ≤ 12) (hy : rpE N d deep → Q 1 σ) (hn : ¬ rpE N d deep → Q 0 σ) : V_Plan_repeatsBy σ d deep Q := by
  unfold V_Plan_repeatsBy
  rw [i32_id (x := deep) (by omega) (by omega)]
  refine wl1 (fun r u => u = σ ∧ d ≤ r ∧ r ≤ deep ∧ ∀ q, d ≤ q → q < r → rwE N d q) (fun r _ => (deep - r).toNat) ⟨rfl, by omega, h2, fun q a b => by omega⟩ ?_
  intro bk r u hI hb
  obtain ⟨rfl, i1, i2, i3⟩ := hI
  rw [i32_id (x := r) (by omega) (by omega)]
  refine ⟨fun hd => hy (fun q a b => i3 q a (by omega)), fun hd => ?_⟩
  refine wl1 (fun g v => v = u ∧ 0 ≤ g ∧ g ≤ 7 ∧ ∀ q, 0 ≤ q → q < g → N (2 + 7 * r + q) = N (2 + 7 * (r - d) + q)) (fun g _ => (7 - g).toNat) ⟨rfl, by omega, by omega, fun q a b => by omega⟩ ?_
  intro bk2 g v hI2 hb2
  obtain ⟨rfl, j1, j2, j3⟩ := hI2
  rw [i32_id (x := g) (by omega) (by omega), i32_id (x := r * 7 + g) (by omega) (by omega), i32_id (x := (r - d) * 7 + g) (by omega) (by omega)]
  refine ⟨fun he => hb _ _ ⟨rfl, by omega, by omega, fun q a b => ?_⟩ (by omega), fun he => ⟨⟨by omega, by omega⟩, ⟨by omega, by omega⟩, ?_⟩⟩
  · by_cases c : q = r
    · rw [c]; exact fun g' a' b' => j3 g' a' (by omega)
    · exact i3 q a (by omega)
  · have e1 := hc (r * 7 + g) (by omega) (by omega)
    have e2 := hc ((r - d) * 7 + g) (by omega) (by omega)
    have b1 := cell_rng hp (r := r) (g := g) (by omega) (by omega) (by omega) (by omega)
    have b2 := cell_rng hp (r := r - d) (g := g) (by omega) (by omega) (by omega) (by omega)
    rw [e1, e2, show (2 : Int) + (r * 7 + g) = 2 + 7 * r + g by omega, show (2 : Int) + ((r - d) * 7 + g) = 2 + 7 * (r - d) + g by omega, i32_id (x := N (2 + 7 * r + g)) (by omega) (by omega), i32_id (x := N (2 + 7 * (r - d) + g)) (by omega) (by omega)]
    refine ⟨fun h => hb2 _ _ ⟨rfl, by omega, by omega, fun q a b => ?_⟩ (by omega), fun h => hn (fun z => h (z r (by omega) hd g j1 he))⟩
    by_cases c : q = g
    · rw [c]; exact h
    · exact j3 q a (by omega)
theorem Mrows_ok {τ : St} {r q : Int} {Q : Int → St → Prop} (hp : planOk (τ 1)) (h1 : 0 ≤ r) (h2 : r < 12) (h3 : 0 ≤ q) (h4 : q < 12) (hy : (∀ g, 0 ≤ g → g < 7 → τ 1 (2 + 7 * r + g) = τ 1 (2 + 7 * q + g)) → Q 1 τ) (hn : ¬ (∀ g, 0 ≤ g → g < 7 → τ 1 (2 + 7 * r + g) = τ 1 (2 + 7 * q + g)) → Q 0 τ) : V_M_areRowsAlike τ r q Q := by
  unfold V_M_areRowsAlike
  have n2 := hp.1
  have n8 := hp.2.1
  refine wl1 (fun g u => u = τ ∧ 0 ≤ g ∧ g ≤ τ 1 0 - 1 ∧ ∀ p, 0 ≤ p → p < g → τ 1 (2 + 7 * r + p) = τ 1 (2 + 7 * q + p)) (fun g _ => (τ 1 0 - g).toNat) ⟨rfl, by omega, by omega, fun p a b => by omega⟩ ?_
  intro bk g u hI hb
  obtain ⟨rfl, i1, i2, i3⟩ := hI
  dsimp only [V_M_gaps]
  rw [i32_id (x := g) (by omega) (by omega), i32_id (x := u 1 0 - 1) (by omega) (by omega)]
  refine ⟨fun hc => hy (fun p a b => ?_), fun hc => Mheld_ok h1 h2 i1 (by omega) (Mheld_ok h3 h4 i1 (by omega) ?_)⟩
  · by_cases c : p < g
    · exact i3 p a c
    · rw [hp.2.2.2.1 r p h1 h2 (by omega) b, hp.2.2.2.1 q p h3 h4 (by omega) b]
  · have b1 := cell_rng hp h1 h2 i1 (by omega)
    have b2 := cell_rng hp h3 h4 i1 (by omega)
    rw [i32_id (x := u 1 (2 + 7 * r + g)) (by omega) (by omega), i32_id (x := u 1 (2 + 7 * q + g)) (by omega) (by omega)]
    refine ⟨fun h => hb _ _ ⟨rfl, by omega, by omega, fun p a b => ?_⟩ (by omega), fun h => hn (fun z => h (z g i1 (by omega)))⟩
    by_cases c : p = g
    · rw [c]; exact h
    · exact i3 p a (by omega)
theorem op_repeat {σ τ : St} (hRel : Rel σ τ) : V_P_repeat σ (fun r σ' => V_M_repeat τ (fun r' τ' => i32 r = i32 r' ∧ Rel σ' τ')) := by
  obtain ⟨l1, l2, l3⟩ := len_GC hRel
  have p1 := hRel.2.1
  have p2 := hRel.2.2.1
  have p4 := hRel.2.2.2.2.1
  obtain ⟨d1, d2, d3, d4⟩ := deep_rng p1
  have e161 : σ 16 1 = gDeep (stS (τ 1)) := hRel.2.2.2.1.2.1
  obtain ⟨D, hD⟩ : ∃ D, D = gDeep (stS (τ 1)) := ⟨_, rfl⟩
  rw [← hD] at d1 d2 d3 d4 e161
  have mgo : ∀ d, 1 ≤ d → d ≤ D → (∀ q, 1 ≤ q → q < d → ¬ rpE (τ 1) q D) → rpE (τ 1) d D → V_M_repeat τ (fun r' τ' => i32 d = i32 r' ∧ Rel σ τ') := by
    intro d h1 h2 hbef hd
    unfold V_M_repeat
    rw [l2, i32_id (x := ((stS (τ 1)).length : Int)) (by omega) (by omega)]
    refine ⟨fun _ => ?_, fun w => by omega⟩
    refine wl1 (fun x u => u = τ ∧ 1 ≤ x ∧ x ≤ d) (fun x _ => (d - x).toNat) ⟨rfl, by omega, h1⟩ ?_
    intro bk x u hI hb
    obtain ⟨rfl, x1, x2⟩ := hI
    refine Mdeep_ok p1 p4 ?_
    rw [← hD, i32_id (x := D) (by omega) (by omega), i32_id (x := x) (by omega) (by omega)]
    refine ⟨fun hc => Mdeep_ok p1 p4 ?_, fun hc => ?_⟩
    · have : x = d := by omega
      rw [← hD]
      exact ⟨by rw [show D = d by omega], hRel⟩
    · -- rows from x on
      have fin : ∀ z : Int, (z = 0 ∨ z = 1) → (z = 1 ↔ rpE (u 1) x D) → ((i32 z = 0 → bk (x + 1) u) ∧ (¬ i32 z = 0 → i32 d = i32 x ∧ Rel σ u)) := by
        intro z hz01 hz
        rw [i32_id (x := z) (by omega) (by omega)]
        refine ⟨fun h => hb _ _ ⟨rfl, by omega, ?_⟩ ?_, fun h => ⟨?_, hRel⟩⟩
        · by_cases c : x = d
          · rw [c] at hz; have := hz.mpr hd; omega
          · omega
        · by_cases c : x = d
          · rw [c] at hz; have := hz.mpr hd; omega
          · omega
        · have hz1 := hz.mp (by omega)
          by_cases c : x = d
          · rw [c]
          · exact absurd hz1 (hbef x x1 (by omega))
      refine wl2 (fun r z v => v = u ∧ x ≤ r ∧ r ≤ D ∧ (z = 0 ∨ z = 1) ∧ (z = 1 ↔ ∀ q, x ≤ q → q < r → rwE (u 1) x q) ∧ (z = 0 → ¬ rpE (u 1) x D)) (fun r _ _ => (D - r).toNat) ⟨rfl, by omega, by omega, Or.inr rfl, ⟨fun _ q a b => by omega, fun _ => rfl⟩, fun w => absurd w (by decide)⟩ ?_
      intro bk2 r z v hI2 hb2
      obtain ⟨rfl, j1, j2, j3, j4, j5⟩ := hI2
      refine Mdeep_ok p1 p4 ?_
      rw [← hD, i32_id (x := D) (by omega) (by omega), i32_id (x := r) (by omega) (by omega)]
      refine ⟨fun he => fin z j3 ?_, fun he => ⟨fun h0 => fin z j3 ?_, fun h0 => ?_⟩⟩
      · have : r = D := by omega
        rw [this] at j4
        exact j4
      · rw [i32_id (x := z) (by omega) (by omega)] at h0
        exact ⟨fun w => by omega, fun w => absurd w (j5 h0)⟩
      · rw [i32_id (x := z) (by omega) (by omega)] at h0
        have hz1 := j4.mp (by omega)
        refine Mrows_ok p1 (by omega) (by omega) (by omega) (by omega) (fun h => hb2 _ _ _ ⟨rfl, by omega, by omega, Or.inr rfl, ⟨fun _ q a b => ?_, fun _ => rfl⟩, fun w => absurd w (by decide)⟩ (by omega)) (fun h => hb2 _ _ _ ⟨rfl, by omega, by omega, Or.inl rfl, ⟨fun w => absurd w (by decide), fun w => absurd (w r j1 (by omega)) h⟩, fun _ w => h (w r j1 he)⟩ (by omega))
        by_cases c : q = r
        · rw [c]; exact h
        · exact hz1 q a (by omega)
  unfold V_P_repeat
  refine wl1 (fun x u => u = σ ∧ 1 ≤ x ∧ (x ≤ D ∨ x = 1) ∧ ∀ q, 1 ≤ q → q < x → ¬ rpE (τ 1) q D) (fun x _ => (D + 1 - x).toNat) ⟨rfl, by omega, Or.inr rfl, fun q a b => by omega⟩ ?_
  intro bk x u hI hb
  obtain ⟨rfl, i1, i2, i3⟩ := hI
  rw [e161, i32_id (x := D) (by omega) (by omega), i32_id (x := x) (by omega) (by omega)]
  refine ⟨fun hc => ?_, fun hc => ?_⟩
  · have hD0 : D = 0 := by omega
    refine both_fail (e := -1000000002) hRel (by decide) (by decide) (by decide) (VM := fun τ Q => V_M_repeat τ Q) (fun Q hQ => ?_)
    unfold V_M_repeat
    rw [l2, i32_id (x := ((stS (τ 1)).length : Int)) (by omega) (by omega)]
    exact ⟨fun w => absurd (by have := d3.mp hD0; omega) w, fun _ => hQ⟩
  · refine repeatsBy_ok p1 p2.2.2.1 i1 hc d2 (fun hy => ⟨fun w => absurd w n10, fun _ => mgo x i1 hc i3 hy⟩) (fun hn => ⟨fun _ => ?_, fun w => absurd z00 w⟩)
    have hlt : x < D := by
      by_cases c : x = D
      · exfalso
        apply hn
        intro r a b
        omega
      · omega
    refine hb _ _ ⟨rfl, by omega, Or.inl (by omega), fun q a b => ?_⟩ (by omega)
    by_cases c : q = x
    · rw [c]; exact hn
    · exact i3 q a (by omega)

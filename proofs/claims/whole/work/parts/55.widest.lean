-- THE CLASS's widest
theorem widestLeftOf_ok {σ : St} {S : List GR} {W : Nat → Nat} {s : Nat} {Q : Int → St → Prop} (hG : GC σ S) (hO : gOk S) (hB : gB S) (hl : S.length ≤ 48) (hs : s < S.length) (hW : ∀ t : Nat, t < S.length → gS S (t : Int) < gS S (s : Int) → σ 22 t = (W t : Nat) ∧ W t ≤ 48)
    (k : ∀ v : Nat, v ≤ 48 → (∀ t, t < S.length → lft S t s → W t ≤ v) → (v = 0 ∨ ∃ t, t < S.length ∧ lft S t s ∧ v = W t) → Q v σ) : V_Ground_widestLeftOf σ s Q := by
  unfold V_Ground_widestLeftOf
  refine wl2 (fun i y u => u = σ ∧ ∃ n v : Nat, n ≤ S.length ∧ i = n ∧ y = v ∧ v ≤ 48 ∧ (∀ t, t < n → lft S t s → W t ≤ v) ∧ (v = 0 ∨ ∃ t, t < S.length ∧ lft S t s ∧ v = W t)) (fun i _ _ => (S.length - i).toNat) ⟨rfl, 0, 0, by omega, rfl, rfl, by omega, fun t ht => by omega, Or.inl rfl⟩ ?_
  intro bk i y u hI hb
  obtain ⟨rfl, n, v, hn, rfl, rfl, hv, h1, h2⟩ := hI
  rw [hG.1, i32_id (x := (n : Int)) (by omega) (by omega), i32_id (x := (s : Int)) (by omega) (by omega), i32_id (x := (S.length : Int)) (by omega) (by omega)]
  refine ⟨fun hc => k v hv (fun t ht => h1 t (by omega)) h2, fun hc => ⟨⟨by omega, by omega⟩, ⟨by omega, by omega⟩, ?_⟩⟩
  have e1 := (GC_at hG (s := (n : Int)) (by omega) (by omega)).1
  have e2 := (GC_at hG (s := (s : Int)) (by omega) (by omega)).1
  obtain ⟨x, x1, x2, -⟩ := S_at (S := S) (s := (n : Int)) (by omega) (by omega)
  obtain ⟨y, y1, y2, -⟩ := S_at (S := S) (s := (s : Int)) (by omega) (by omega)
  have g1 := hO _ x x1
  have g2 := hO _ y y1
  rw [e1, e2, i32_id (x := gS S (n : Int)) (by omega) (by omega), i32_id (x := gS S (s : Int)) (by omega) (by omega)]
  have skip : ¬ lft S n s → bk ((n : Int) + 1) v u := fun hx => hb _ _ _ ⟨rfl, n + 1, v, by omega, by omega, rfl, hv, fun t ht hlt => by
    by_cases c : t = n
    · rw [c] at hlt; exact absurd hlt hx
    · exact h1 t (by omega) hlt, h2⟩ (by omega)
  refine ⟨fun hd => skip (fun z => by have := z.1; omega), fun hd => ?_⟩
  refine leads_ok hG hB hl (by omega) (by omega) (by omega) (by omega) (fun ht => ⟨fun _ => skip (fun z => z.2.1 ht), fun z => absurd z n10⟩) (fun ht => ⟨fun z => absurd z00 z, fun _ => ?_⟩)
  refine leads_ok hG hB hl (by omega) (by omega) (by omega) (by omega) (fun ht2 => ⟨fun _ => skip (fun z => z.2.2 ht2), fun z => absurd z n10⟩) (fun ht2 => ⟨fun z => absurd z00 z, fun _ => ⟨⟨by omega, by omega⟩, fun y hy => ?_⟩⟩)
  have hlf : lft S n s := ⟨hd, fun z => (by unfold led at z; rw [show ((s : Int)).toNat = s by omega] at ht; rw [ht] at z; cases z), fun z => by unfold led at z; rw [show ((n : Int)).toNat = n by omega] at ht2; rw [ht2] at z; cases z⟩
  obtain ⟨w1, w2⟩ := hW n (by omega) hd
  rw [w1, mxi_max (i32_id (by omega) (by omega)) (i32_id (by omega) (by omega))] at hy
  refine hb _ _ _ ⟨rfl, n + 1, max v (W n), by omega, by omega, by omega, by omega, fun t ht hlt => ?_, ?_⟩ (by omega)
  · by_cases c : t = n
    · rw [c]; omega
    · have := h1 t (by omega) hlt
      omega
  · by_cases c : W n ≤ v
    · rw [show max v (W n) = v by omega]; exact h2
    · exact Or.inr ⟨n, by omega, hlf, by omega⟩
def dnW (S : List GR) (g : Int) (s t : Nat) : Prop := gS S (t : Int) < g ∨ (gS S (t : Int) = g ∧ t < s)
def WI (S : List GR) (σ u : St) (W : Nat → Nat) (w : Nat) (g : Int) (s : Nat) : Prop := cfr 22 22 σ u ∧ (∀ t : Nat, t < S.length → dnW S g s t → u 22 t = (W t : Nat) ∧ W t ≤ 48 ∧ wdA S t (W t) ∧ wdB S t (W t)) ∧ w ≤ 48 ∧ (∀ t, t < S.length → dnW S g s t → W t ≤ w) ∧ (w = 0 ∨ ∃ t, t < S.length ∧ dnW S g s t ∧ w = W t)
theorem WI_re {S : List GR} {σ u : St} {W : Nat → Nat} {w : Nat} {g g' : Int} {s s' : Nat} (h : WI S σ u W w g s) (e : ∀ t, t < S.length → (dnW S g s t ↔ dnW S g' s' t)) : WI S σ u W w g' s' := by
  obtain ⟨h1, h2, h3, h4, h5⟩ := h
  refine ⟨h1, fun t ht hd => h2 t ht ((e t ht).mpr hd), h3, fun t ht hd => h4 t ht ((e t ht).mpr hd), ?_⟩
  rcases h5 with q | ⟨t, t1, t2, t3⟩
  · exact Or.inl q
  · exact Or.inr ⟨t, t1, (e t t1).mp t2, t3⟩
theorem widest_ok {σ : St} {S : List GR} {Q : Int → St → Prop} (hG : GC σ S) (hO : gOk S) (hB : gB S) (hS : gSort S) (hl : S.length ≤ 48) (k : ∀ (w : Nat) (σ' : St), w ≤ 48 → wdS S w → cfr 22 22 σ σ' → Q w σ') : V_Ground_widest σ Q := by
  have gr : ∀ t : Nat, t < S.length → 0 ≤ gS S (t : Int) ∧ gS S (t : Int) < 7 := fun t ht => by
    obtain ⟨x, x1, x2, -⟩ := S_at (S := S) (s := (t : Int)) (by omega) (by omega)
    have := hO _ x x1
    omega
  unfold V_Ground_widest
  refine wl2 (fun g y u => ∃ (w : Nat) (W : Nat → Nat), 0 ≤ g ∧ g ≤ 7 ∧ y = w ∧ WI S σ u W w g 0) (fun g _ _ => (7 - g).toNat) ⟨0, fun _ => 0, by omega, by omega, rfl, cfr.rf, fun t ht hd => ?_, by omega, fun t ht hd => Nat.zero_le _, Or.inl rfl⟩ ?_
  · have := gr t ht
    unfold dnW at hd
    omega
  intro bk g y u hI hb
  obtain ⟨w, W, g0, g7, rfl, hW⟩ := hI
  rw [i32_id (x := g) (by omega) (by omega)]
  refine ⟨fun hc => ?_, fun hc => ?_⟩
  · obtain ⟨h1, h2, h3, h4, h5⟩ := hW
    have all : ∀ t, t < S.length → dnW S g 0 t := fun t ht => Or.inl (by have := gr t ht; omega)
    refine k w u h3 (wd_end (W := W) (fun t ht => (h2 t ht (all t ht)).2.2) (fun t ht => h4 t ht (all t ht)) ?_) h1
    rcases h5 with q | ⟨t, t1, t2, t3⟩
    · exact Or.inl q
    · exact Or.inr ⟨t, t1, t3⟩
  · refine wl2 (fun i y v => ∃ (n w : Nat) (W : Nat → Nat), n ≤ S.length ∧ i = n ∧ y = w ∧ WI S σ v W w g n) (fun i _ _ => (S.length - i).toNat) ⟨0, w, W, by omega, rfl, rfl, hW⟩ ?_
    intro bk2 i y v hI2 hb2
    obtain ⟨n, w, W, hn, rfl, rfl, hV⟩ := hI2
    have f := hV.1
    have vG : GC v S := hG.fe (fun k a b => f k (by omega))
    rw [vG.1, i32_id (x := (n : Int)) (by omega) (by omega), i32_id (x := (S.length : Int)) (by omega) (by omega)]
    refine ⟨fun hd => hb _ _ _ ⟨w, W, by omega, by omega, rfl, WI_re hV (fun t ht => by unfold dnW; omega)⟩ (by omega), fun hd => ⟨⟨by omega, by omega⟩, ?_⟩⟩
    have hg := gr n (by omega)
    rw [(GC_at vG (s := (n : Int)) (by omega) (by omega)).1, i32_id (x := gS S (n : Int)) (by omega) (by omega)]
    refine ⟨fun he => hb2 _ _ _ ⟨n + 1, w, W, by omega, by omega, rfl, WI_re hV (fun t ht => ?_)⟩ (by omega), fun he => ?_⟩
    · unfold dnW
      by_cases c : t = n
      · rw [c]; omega
      · omega
    · obtain ⟨h1, h2, h3, h4, h5⟩ := hV
      refine widestLeftOf_ok (W := W) vG hO hB hl (by omega) (fun t ht hlt => ?_) (fun x x1 x2 x3 => ⟨⟨by omega, by omega⟩, fun z hz => ⟨⟨by omega, by omega⟩, fun y hy => ?_⟩⟩)
      · have := h2 t ht (Or.inl (by omega))
        exact ⟨this.1, this.2.1⟩
      · obtain ⟨a1, a2⟩ := wd_step hB hS (W := W) (s := n) (v := x) (by omega) (fun t ht hlt => (h2 t ht (Or.inl (by omega))).2.2) x2 x3
        have hx : 1 + x ≤ 48 := by
          obtain ⟨B, -, -, b3⟩ := a1
          have := cB_le B S.length
          omega
        have ez : z 22 n = ((1 + x : Nat) : Int) := by rw [hz, ss_at]; omega
        rw [ez, mxi_max (i32_id (by omega) (by omega)) (i32_id (by omega) (by omega))] at hy
        have split : ∀ t : Nat, t < S.length → dnW S g (n + 1) t → t ≠ n → dnW S g n t := fun t ht hd hne => by unfold dnW at *; omega
        refine hb2 _ _ _ ⟨n + 1, max w (1 + x), fun t => if t = n then 1 + x else W t, by omega, by omega, by omega, h1.tr (by rw [hz]; exact cfr.s (by omega) (by omega)), fun t ht hdn => ?_, by omega, fun t ht hdn => ?_, ?_⟩ (by omega)
        · by_cases c : t = n
          · subst c
            simp only [if_true]
            exact ⟨ez, hx, a1, a2⟩
          · simp only [if_neg c]
            have := h2 t ht (split t ht hdn c)
            refine ⟨?_, this.2⟩
            rw [hz, ss_ne _ _ (by omega)]
            exact this.1
        · by_cases c : t = n
          · simp only [if_pos c]; omega
          · simp only [if_neg c]
            have := h4 t ht (split t ht hdn c)
            omega
        · by_cases c : 1 + x ≤ w
          · rw [show max w (1 + x) = w by omega]
            rcases h5 with q | ⟨t, t1, t2, t3⟩
            · exact Or.inl q
            · have hne : t ≠ n := fun z => by rw [z] at t2; unfold dnW at t2; omega
              exact Or.inr ⟨t, t1, by unfold dnW at *; omega, by simp only [if_neg hne]; exact t3⟩
          · exact Or.inr ⟨n, by omega, by unfold dnW; omega, by simp only [if_true]; omega⟩

-- THE CLASS's heap of crossings
def cfr (lo hi : Nat) (σ σ' : St) : Prop := ∀ k, (k < lo ∨ hi < k) → σ' k = σ k
theorem cfr.rf {lo hi : Nat} {σ : St} : cfr lo hi σ σ := fun _ _ => rfl
theorem cfr.tr {lo hi : Nat} {a b c : St} (h1 : cfr lo hi a b) (h2 : cfr lo hi b c) : cfr lo hi a c := fun k h => (h2 k h).trans (h1 k h)
theorem cfr.mono {lo hi lo' hi' : Nat} {a b : St} (h : cfr lo hi a b) (h1 : lo' ≤ lo) (h2 : hi ≤ hi') : cfr lo' hi' a b := fun k hk => h k (by omega)
theorem cfr.s {lo hi k : Nat} {σ : St} {i v : Int} (h1 : lo ≤ k) (h2 : k ≤ hi) : cfr lo hi σ (ss σ k i v) := fun k' hk => ss_row _ (by omega) _ _
theorem cfr.f {lo hi k : Nat} {σ : St} {f : Int → Int} (h1 : lo ≤ k) (h2 : k ≤ hi) : cfr lo hi σ (sf σ k f) := fun k' hk => sf_row _ (by omega) _
def HP (σ : St) (h : Nat) (R : List HI) : Prop :=
  σ h 0 = R.length ∧ (∀ l p, 0 ≤ l → l < 96 → 0 ≤ p → p < 15 → σ (h + 1) (l * 15 + p) = sg R l p) ∧ (∀ p, -1 ≤ p → p ≤ 15 → σ (h + 2) (p + 1) = hT R p - 1) ∧ ∀ p, hT R p ≤ 96
theorem HP.fr {σ σ' : St} {h lo hi : Nat} {R : List HI} (hp : HP σ h R) (f : cfr lo hi σ σ') (hh : h + 2 < lo ∨ hi < h) : HP σ' h R := by
  obtain ⟨h1, h2, h3, h4⟩ := hp
  refine ⟨by rw [f h (by omega)]; exact h1, fun l p a b c d => by rw [f (h + 1) (by omega)]; exact h2 l p a b c d, fun p a b => by rw [f (h + 2) (by omega)]; exact h3 p a b, h4⟩
theorem HeapTake_ok {σ : St} {h : Nat} {R R' : List HI} {p s : Int} {Q : St → Prop} (hH : HP σ h R) (hW : hWf R) (hp : 0 ≤ p) (hp2 : p < 15) (e : hrm R p s = some R') (hlen : R.length ≤ 2000)
    (k : ∀ σ', HP σ' h R' → cfr h (h + 2) σ σ' → Q σ') : V_Heap_takeTop h σ p (hT R p - 1) Q := by
  obtain ⟨q1, q2, q3, q4, q5, q6, q7⟩ := hrm_some hW e
  obtain ⟨g1, g2, g3, g4⟩ := hH
  obtain ⟨tp, htp⟩ : ∃ tp, tp = hT R p - 1 := ⟨_, rfl⟩
  have hn := hT_nn hW (p - 1)
  have h96 := g4 p
  have hn' := hT_nn q3 p
  rw [← htp]
  unfold V_Heap_takeTop
  have e1 : i32 (tp * 15 + p) = tp * 15 + p := i32_id (by omega) (by omega)
  have e2 : i32 (p + 1) = p + 1 := i32_id (by omega) (by omega)
  rw [e1, e2]
  refine ⟨⟨by omega, by omega⟩, fun σ1 h1 σ2 h2 x hx => ?_⟩
  have s2 : ∀ l q, 0 ≤ l → l < 96 → 0 ≤ q → q < 15 → σ2 (h + 1) (l * 15 + q) = sg R' l q := by
    intro l q a b c d
    rw [h2, ss_row _ (by omega), h1, ss_self]
    rw [q6, ← htp]
    by_cases c1 : q = p ∧ l = tp
    · rw [if_pos c1]
      simp [c1.1, c1.2]
    · rw [if_neg c1]
      show (if l * 15 + q = tp * 15 + p then (0 : Int) else σ (h + 1) (l * 15 + q)) = _
      rw [if_neg (by omega)]
      exact g2 l q a b c d
  have fin : ∀ (y : Int) (u : St), y = hT R' p - 1 → u = ss σ2 (h + 2) (p + 1) y → Q u := by
    intro y u hy hu
    refine k u ⟨?_, fun l q a b c d => ?_, fun q a b => ?_, fun q => ?_⟩ ?_
    · rw [hu, ss_row _ (by omega), h2, ss_at, h1, ss_row _ (by omega), g1]
      omega
    · rw [hu, ss_row _ (by omega)]
      exact s2 l q a b c d
    · rw [hu, ss_self]
      show (if q + 1 = p + 1 then y else σ2 (h + 2) (q + 1)) = _
      by_cases c1 : q = p
      · rw [if_pos (by omega), c1]
        exact hy
      · rw [if_neg (by omega), q5 q c1, h2, ss_row _ (by omega), h1, ss_row _ (by omega)]
        exact g3 q a b
    · by_cases c1 : q = p
      · rw [c1]; omega
      · rw [q5 q c1]; exact g4 q
    · rw [hu]
      refine cfr.tr (cfr.tr (b := σ1) ?_ ?_) (cfr.s (by omega) (by omega))
      · rw [h1]; exact cfr.s (by omega) (by omega)
      · rw [h2]; exact cfr.s (by omega) (by omega)
  refine wl1 (fun x u => u = σ2 ∧ -1 ≤ x ∧ x < tp ∧ hT R' p ≤ x + 1) (fun x _ => (x + 1).toNat) ⟨rfl, by omega, by omega, by omega⟩ ?_
  intro bk y u hI hb
  obtain ⟨i1, i2, i3, i4⟩ := hI
  subst i1
  have e3 : i32 y = y := i32_id (by omega) (by omega)
  have e4 : i32 (y * 15 + p) = y * 15 + p := i32_id (by omega) (by omega)
  rw [e3, e4]
  refine ⟨fun hc => ⟨⟨by omega, by omega⟩, fun u1 hu => fin y u1 (by omega) hu⟩, fun hc => ⟨⟨by omega, by omega⟩, ?_⟩⟩
  have es := s2 y p hc (by omega) hp hp2
  have hz := sg_01 q3 y p
  rw [es, i32_id (x := sg R' y p) (by omega) (by omega)]
  refine ⟨fun hs => ⟨⟨by omega, by omega⟩, fun u1 hu => fin y u1 ?_ hu⟩, fun hs => hb _ _ ⟨rfl, by omega, by omega, ?_⟩ (by omega)⟩
  · have := (sg_rng q3 hs).2.1
    omega
  · by_cases c : hT R' p = y + 1
    · have := sg_top q3 (p := p) (by omega)
      rw [c, show y + 1 - 1 = y by omega] at this
      omega
    · omega
theorem HeapAdd_ok {σ : St} {h : Nat} {R : List HI} {p s : Int} {Q : St → Prop} (hH : HP σ h R) (hW : hWf R) (hp : 0 ≤ p) (hp2 : p < 15) (hs : s = 1 ∨ s = 2) (hlen : R.length ≤ 2000) (hM96 : hM R p < 96)
    (k : ∀ σ', HP σ' h (hadd R p s) → cfr h (h + 2) σ σ' → Q σ') : V_Heap_add h σ p s Q := by
  have hH0 := hH
  obtain ⟨g1, g2, g3, g4⟩ := hH
  have t1 := hT_nn hW p
  have t2 := hT_nn hW (p - 1)
  have t3 := hT_nn hW (p + 1)
  have b1 := g4 p
  have b2 := g4 (p - 1)
  have b3 := g4 (p + 1)
  have hm : hM R p = max (max (hT R (p - 1)) (hT R p)) (hT R (p + 1)) := rfl
  have r1 : σ (h + 2) (p + 1) = hT R p - 1 := g3 p (by omega) (by omega)
  have r2 : σ (h + 2) p = hT R (p - 1) - 1 := by
    have := g3 (p - 1) (by omega) (by omega)
    rw [show p - 1 + 1 = p by omega] at this
    exact this
  have r3 : σ (h + 2) (p + 2) = hT R (p + 1) - 1 := by
    have := g3 (p + 1) (by omega) (by omega)
    rw [show p + 1 + 1 = p + 2 by omega] at this
    exact this
  unfold V_Heap_add
  rw [i32_id (x := p + 1) (by omega) (by omega), i32_id (x := p) (by omega) (by omega), i32_id (x := p + 2) (by omega) (by omega), r1, r2, r3]
  have hs2 : i32 s = s := i32_id (by omega) (by omega)
  rw [hs2]
  refine ⟨⟨by omega, by omega⟩, fun x hx => ⟨⟨by omega, by omega⟩, ⟨by omega, by omega⟩, fun y hy => ?_⟩⟩
  have ey : y = max (hT R (p - 1)) (hT R (p + 1)) - 1 := by
    rw [hy, mxi_max (i32_id (by omega) (by omega)) (i32_id (by omega) (by omega))]
    omega
  clear hy
  have ex : i32 x = x := i32_id (by omega) (by omega)
  have eyy : i32 y = y := i32_id (by omega) (by omega)
  rw [ex, eyy]
  have push : hrm R p s = none → J_Heap_add_56 h p s Q x y σ := by
    intro e
    have ea : hadd R p s = (p, s, hM R p) :: R := by unfold hadd; rw [e]
    unfold J_Heap_add_56
    intro z hz
    have ez : z = hM R p := by
      rw [hz, mxi_max ex eyy, hm]
      omega
    clear hz
    have e5 : i32 z = z := i32_id (by omega) (by omega)
    have e6 : i32 (z * 15 + p) = z * 15 + p := i32_id (by omega) (by omega)
    rw [e5, e6, i32_id (x := p + 1) (by omega) (by omega)]
    refine ⟨fun hc => by omega, fun hc => ⟨⟨by omega, by omega⟩, fun σ5 h5 => ⟨⟨by omega, by omega⟩, fun σ6 h6 σ7 h7 => k σ7 ?_ ?_⟩⟩⟩
    · rw [ea]
      refine ⟨?_, fun l q a b c d => ?_, fun q a b => ?_, fun q => ?_⟩
      · rw [h7, ss_at, h6, ss_row _ (by omega), h5, ss_row _ (by omega), g1]
        simp
      · rw [h7, ss_row _ (by omega), h6, ss_row _ (by omega), h5, ss_self]
        show (if l * 15 + q = z * 15 + p then s else σ (h + 1) (l * 15 + q)) = (if p = q ∧ hM R p = l then s else sg R l q)
        by_cases c1 : p = q ∧ hM R p = l
        · rw [if_pos (by omega), if_pos c1]
        · rw [if_neg (by omega), if_neg c1]
          exact g2 l q a b c d
      · rw [h7, ss_row _ (by omega), h6, ss_self]
        show (if q + 1 = p + 1 then z else σ5 (h + 2) (q + 1)) = (if p = q then hM R p + 1 else hT R q) - 1
        by_cases c1 : p = q
        · rw [if_pos (by omega), if_pos c1]
          omega
        · rw [if_neg (by omega), if_neg c1, h5, ss_row _ (by omega)]
          exact g3 q a b
      · show (if p = q then hM R p + 1 else hT R q) ≤ 96
        split
        · omega
        · exact g4 q
    · rw [h7]
      refine cfr.tr (cfr.tr (cfr.tr (b := σ5) ?_ (c := σ6) ?_) cfr.rf) (cfr.s (by omega) (by omega))
      · rw [h5]; exact cfr.s (by omega) (by omega)
      · rw [h6]; exact cfr.s (by omega) (by omega)
  cases e : hrm R p s with
  | none =>
    have hno := hrm_none hW e
    refine ⟨fun _ => push e, fun hc => ?_⟩
    have e7 : i32 (x * 15 + p) = x * 15 + p := i32_id (by omega) (by omega)
    have es := g2 x p (by omega) (by omega) hp hp2
    have hz := sg_01 hW x p
    rw [e7, es, i32_id (x := sg R x p) (by omega) (by omega)]
    refine ⟨⟨by omega, by omega⟩, fun _ => push e, fun hd => ?_⟩
    exact absurd ⟨by omega, by rw [← hx]; exact hd⟩ hno
  | some R' =>
    obtain ⟨q1, q2, -⟩ := hrm_some hW e
    have ea : hadd R p s = R' := by unfold hadd; rw [e]
    refine ⟨fun hc => by omega, fun hc => ?_⟩
    have e7 : i32 (x * 15 + p) = x * 15 + p := i32_id (by omega) (by omega)
    have es := g2 x p (by omega) (by omega) hp hp2
    have hz := sg_01 hW x p
    rw [e7, es, i32_id (x := sg R x p) (by omega) (by omega)]
    refine ⟨⟨by omega, by omega⟩, fun hd => ?_, fun _ => ?_⟩
    · exact absurd (by rw [hx] at hd; exact hd) q2
    · rw [hx]
      exact HeapTake_ok hH0 hW hp hp2 e hlen (fun σ' h1 h2 => k σ' (by rw [ea]; exact h1) h2)
theorem HeapClear_ok {σ : St} {h : Nat} {Q : St → Prop} (k : ∀ σ', HP σ' h [] → cfr h (h + 2) σ σ' → Q σ') : V_Heap_clear h σ Q := by
  unfold V_Heap_clear
  intro σ1 h1
  refine fillI_ok (by omega) (fillI_ok (by omega) (k _ ⟨?_, fun l p a b c d => ?_, fun p a b => ?_, fun p => ?_⟩ ?_))
  · rw [sf_row _ (by omega), sf_row _ (by omega), h1, ss_at]
    rfl
  · rw [sf_row _ (by omega), sf_at]
    show (if 0 ≤ l * 15 + p ∧ l * 15 + p < ((1440 : Nat) : Int) then (0 : Int) else _) = 0
    rw [if_pos ⟨by omega, by omega⟩]
  · rw [sf_at]
    show (if 0 ≤ p + 1 ∧ p + 1 < ((17 : Nat) : Int) then (-1 : Int) else _) = 0 - 1
    rw [if_pos ⟨by omega, by omega⟩]
    rfl
  · show (0 : Int) ≤ 96
    omega
  · refine cfr.tr (cfr.tr (b := σ1) ?_ (cfr.f (by omega) (by omega))) (cfr.f (by omega) (by omega))
    rw [h1]; exact cfr.s (by omega) (by omega)
/-- how many layers -/
def hL (R : List HI) : Nat → Int
  | 0 => 0
  | n + 1 => max (hL R n) (hT R n)
theorem HeapLayers_ok {σ : St} {h : Nat} {R : List HI} {Q : Int → St → Prop} (hH : HP σ h R) (hW : hWf R) (k : Q (hL R 15) σ) : V_Heap_countLayers h σ Q := by
  obtain ⟨g1, g2, g3, g4⟩ := hH
  unfold V_Heap_countLayers
  have hb : ∀ n : Nat, 0 ≤ hL R n ∧ hL R n ≤ 96 := by
    intro n
    induction n with
    | zero => exact ⟨Int.le_refl _, by show (0 : Int) ≤ 96; omega⟩
    | succ n ih =>
      have := g4 n
      unfold hL
      omega
  refine wl2 (fun i y u => u = σ ∧ ∃ n : Nat, n ≤ 15 ∧ i = n ∧ y = hL R n) (fun i _ _ => (15 - i).toNat) ⟨rfl, 0, by omega, rfl, rfl⟩ ?_
  intro bk i y u hI hbk
  obtain ⟨rfl, n, hn, rfl, rfl⟩ := hI
  rw [i32_id (x := (n : Int)) (by omega) (by omega), i32_id (x := (n : Int) + 1) (by omega) (by omega)]
  refine ⟨fun hc => ?_, fun hc => ⟨⟨by omega, by omega⟩, fun z hz => ?_⟩⟩
  · have : n = 15 := by omega
    subst this
    exact k
  · have h1 := hb n
    have h2 := hT_nn hW n
    have h3 := g4 n
    have h4 := g3 n (by omega) (by omega)
    rw [h4, mxi_max (i32_id (by omega) (by omega)) (i32_id (by omega) (by omega))] at hz
    refine hbk _ _ _ ⟨rfl, n + 1, by omega, by omega, ?_⟩ (by omega)
    rw [hz]
    show max (hL R n) (hT R n - 1 + 1) = max (hL R n) (hT R n)
    omega

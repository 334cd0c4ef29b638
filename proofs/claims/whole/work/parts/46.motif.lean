-- MOTIF
def fdB (N : Int → Int) (it : Int → Int) (w sz : Int) (r g : Int) : Bool :=
  decide (g + w ≤ N 0 - 1) && decide (r + sz / w ≤ 12) && (List.range sz.toNat).all (fun k => decide (it k = -2 ∨ it k = N (2 + 7 * (r + (k : Int) / w) + (g + (k : Int) % w))))
theorem fdB_iff {N it : Int → Int} {w sz r g : Int} (h0 : 0 ≤ sz) : fdB N it w sz r g = true ↔ g + w ≤ N 0 - 1 ∧ r + sz / w ≤ 12 ∧ ∀ k, 0 ≤ k → k < sz → it k = -2 ∨ it k = N (2 + 7 * (r + k / w) + (g + k % w)) := by
  unfold fdB
  rw [Bool.and_eq_true, Bool.and_eq_true, decide_eq_true_eq, decide_eq_true_eq, List.all_eq_true]
  constructor
  · intro ⟨⟨a, b⟩, c⟩
    refine ⟨a, b, fun k k0 k1 => ?_⟩
    have := c k.toNat (List.mem_range.mpr (by omega))
    rw [decide_eq_true_eq, show ((k.toNat : Nat) : Int) = k by omega] at this
    exact this
  · intro ⟨a, b, c⟩
    refine ⟨⟨a, b⟩, fun k hk => ?_⟩
    rw [decide_eq_true_eq]
    have := List.mem_range.mp hk
    exact c k (by omega) (by omega)
theorem w1case {w : Int} (h1 : 1 ≤ w) (h7 : w ≤ 7) : w = 1 ∨ w = 2 ∨ w = 3 ∨ w = 4 ∨ w = 5 ∨ w = 6 ∨ w = 7 := by omega
theorem m1_rng {w i : Int} (h1 : 1 ≤ w) : 0 ≤ i % w ∧ i % w < w := ⟨Int.emod_nonneg _ (by omega), Int.emod_lt_of_pos _ (by omega)⟩
theorem m1_last {w i : Int} (h1 : 1 ≤ w) (h7 : w ≤ 7) (h : i % w + 1 = w) : (i + 1) % w = 0 ∧ (i + 1) / w = i / w + 1 := by
  rcases w1case h1 h7 with rfl | rfl | rfl | rfl | rfl | rfl | rfl <;> omega
theorem m1_next {w i : Int} (h1 : 1 ≤ w) (h7 : w ≤ 7) (h : ¬ i % w + 1 = w) : (i + 1) % w = i % w + 1 ∧ (i + 1) / w = i / w := by
  rcases w1case h1 h7 with rfl | rfl | rfl | rfl | rfl | rfl | rfl <;> omega
theorem m1_dv {w i j : Int} (h1 : 1 ≤ w) (h7 : w ≤ 7) (h : 0 ≤ i) (hj : i < j) (hm : j % w = 0) : 0 ≤ i / w ∧ i / w + 1 ≤ j / w := by
  rcases w1case h1 h7 with rfl | rfl | rfl | rfl | rfl | rfl | rfl <;> omega
theorem m1_end {w j : Int} (h1 : 1 ≤ w) (h7 : w ≤ 7) (hj : 0 < j) (hm : j % w = 0) : (j - 1) / w + 1 = j / w := by
  rcases w1case h1 h7 with rfl | rfl | rfl | rfl | rfl | rfl | rfl <;> omega
theorem m1_60 {w j : Int} (h1 : 1 ≤ w) (h7 : w ≤ 7) (hj : 0 ≤ j) (h : j ≤ 60) : 0 ≤ j / w ∧ j / w ≤ 60 := by
  rcases w1case h1 h7 with rfl | rfl | rfl | rfl | rfl | rfl | rfl <;> omega
theorem fits_ok {σ : St} {N it : Int → Int} {sh : Nat} {w sz r g : Int} {Q : Int → St → Prop} (hp : planOk N) (hP : PR σ 1 N) (h1 : 1 ≤ w) (h7 : w ≤ 7) (hs0 : 0 < sz) (hs60 : sz ≤ 60) (hm : sz % w = 0) (hsz : σ sh 1 = sz) (hit : ∀ k, 0 ≤ k → k < sz → σ (sh + 1) k = it k ∧ i64 (it k) = it k) (r0 : 0 ≤ r) (r12 : r < 12) (g0 : 0 ≤ g) (g7 : g < 7) (hy : fdB N it w sz r g = true → Q 1 σ) (hn : fdB N it w sz r g = false → Q 0 σ) : V_Plan_fits sh σ w r g Q := by
  have iff := fdB_iff (N := N) (it := it) (w := w) (sz := sz) (r := r) (g := g) (by omega)
  have no : ¬ (g + w ≤ N 0 - 1 ∧ r + sz / w ≤ 12 ∧ ∀ k, 0 ≤ k → k < sz → it k = -2 ∨ it k = N (2 + 7 * (r + k / w) + (g + k % w))) → Q 0 σ := fun h => hn (by
    cases hb : fdB N it w sz r g with
    | false => rfl
    | true => exact absurd (iff.mp hb) h)
  have n2 := hp.1
  have n8 := hp.2.1
  unfold V_Plan_fits
  rw [hP.1, i32_id (x := g + w) (by omega) (by omega), i32_id (x := N 0 - 1) (by omega) (by omega)]
  refine ⟨fun hgw => ?_, fun hgw => no (fun z => by omega)⟩
  refine wl3 (fun k x6 x5 u => u = σ ∧ 0 ≤ k ∧ k ≤ sz ∧ x6 = k % w ∧ x5 = r + k / w ∧ (0 < k → r + (k - 1) / w < 12) ∧ ∀ q, 0 ≤ q → q < k → it q = -2 ∨ it q = N (2 + 7 * (r + q / w) + (g + q % w))) (fun k _ _ _ => (sz - k).toNat) ⟨rfl, by omega, by omega, by simp, by simp, fun w => by omega, fun q a b => by omega⟩ ?_
  intro bk k x6 x5 u hI hb
  obtain ⟨rfl, i1, i2, rfl, rfl, i5, i6⟩ := hI
  have hmr := m1_rng (i := k) h1
  have hdv := m1_60 h1 h7 i1 (by omega)
  rw [hsz, i32_id (x := k) (by omega) (by omega), i32_id (x := sz) (by omega) (by omega), i32_id (x := r + k / w) (by omega) (by omega), i32_id (x := w) (by omega) (by omega), i32_id (x := k % w + 1) (by omega) (by omega)]
  refine ⟨fun hc => hy (iff.mpr ⟨hgw, ?_, fun q a b => i6 q a (by omega)⟩), fun hc => ⟨fun hd => no (fun z => ?_), fun hd => ⟨⟨by omega, by omega⟩, ?_⟩⟩⟩
  · have : k = sz := by omega
    rw [this] at i5
    have := i5 (by omega)
    have := m1_end h1 h7 hs0 hm
    omega
  · have := m1_dv h1 h7 i1 hc hm
    omega
  · have ei : (r + k / w) * 7 + g + k % w = 7 * (r + k / w) + (g + k % w) := by omega
    rw [ei, i32_id (x := 7 * (r + k / w) + (g + k % w)) (by omega) (by omega)]
    refine ⟨⟨by omega, by omega⟩, ?_⟩
    have ec := hP.2.2.1 (7 * (r + k / w) + (g + k % w)) (by omega) (by omega)
    rw [show (2 : Int) + (7 * (r + k / w) + (g + k % w)) = 2 + 7 * (r + k / w) + (g + k % w) by omega] at ec
    have ec' : u 2 (7 * (r + k / w) + (g + k % w)) = N (2 + 7 * (r + k / w) + (g + k % w)) := ec
    have cr := cell_rng hp (r := r + k / w) (g := g + k % w) (by omega) (by omega) (by omega) (by omega)
    obtain ⟨t1, t2⟩ := hit k i1 hc
    rw [ec', t1]
    unfold V_Plan_fitsCell
    rw [t2, i32_id (x := N (2 + 7 * (r + k / w) + (g + k % w))) (by omega) (by omega)]
    have go : (it k = -2 ∨ it k = N (2 + 7 * (r + k / w) + (g + k % w))) → ((¬ i32 1 = 0 → ((¬ k % w + 1 = w → bk (k + 1) (k % w + 1) (r + k / w) u) ∧ (k % w + 1 = w → bk (k + 1) 0 (r + k / w + 1) u))) ∧ (i32 1 = 0 → Q 0 u)) := by
      intro ho
      have all : ∀ q, 0 ≤ q → q < k + 1 → it q = -2 ∨ it q = N (2 + 7 * (r + q / w) + (g + q % w)) := fun q a b => by
        by_cases c : q = k
        · rw [c]; exact ho
        · exact i6 q a (by omega)
      refine ⟨fun _ => ⟨fun hl => ?_, fun hl => ?_⟩, fun w => absurd w n10⟩
      · obtain ⟨e1, e2⟩ := m1_next h1 h7 hl
        exact hb _ _ _ _ ⟨rfl, by omega, by omega, e1.symm, by rw [e2], fun _ => by rw [show k + 1 - 1 = k by omega]; exact hd, all⟩ (by omega)
      · obtain ⟨e1, e2⟩ := m1_last h1 h7 hl
        exact hb _ _ _ _ ⟨rfl, by omega, by omega, e1.symm, by rw [e2]; omega, fun _ => by rw [show k + 1 - 1 = k by omega]; exact hd, all⟩ (by omega)
    refine ⟨fun e => go (Or.inl e), fun ne => ⟨fun ne2 => ⟨fun w => absurd z00 w, fun _ => no (fun z => ?_)⟩, fun e => go (Or.inr e)⟩⟩
    rcases z.2.2 k i1 hc with q | q
    · exact ne q
    · exact ne2 q
theorem Mfound_ok {τ : St} {it : Int → Int} {a w sz r g : Int} {Q : Int → St → Prop} (hp : planOk (τ 1)) (ha : 0 ≤ a) (ha4 : a < 4) (h1 : 1 ≤ w) (h7 : w ≤ 7) (hs0 : 0 < sz) (hs60 : sz ≤ 60) (hm : sz % w = 0) (hsz : τ 25 a = sz) (hit : ∀ k, 0 ≤ k → k < sz → τ 26 (60 * a + k) = it k ∧ i64 (it k) = it k) (r0 : 0 ≤ r) (rh : r + sz / w ≤ 12) (g0 : 0 ≤ g) (gw : g + w ≤ τ 1 0 - 1) (hy : fdB (τ 1) it w sz r g = true → Q 1 τ) (hn : fdB (τ 1) it w sz r g = false → Q 0 τ) : V_M_isFound τ a w r g Q := by
  have iff := fdB_iff (N := τ 1) (it := it) (w := w) (sz := sz) (r := r) (g := g) (by omega)
  have no : ¬ (g + w ≤ τ 1 0 - 1 ∧ r + sz / w ≤ 12 ∧ ∀ k, 0 ≤ k → k < sz → it k = -2 ∨ it k = τ 1 (2 + 7 * (r + k / w) + (g + k % w))) → Q 0 τ := fun h => hn (by
    cases hb : fdB (τ 1) it w sz r g with
    | false => rfl
    | true => exact absurd (iff.mp hb) h)
  have n8 := hp.2.1
  unfold V_M_isFound
  rw [i32_id (x := a) (by omega) (by omega), i32_id (x := w) (by omega) (by omega)]
  refine wl1 (fun k u => u = τ ∧ 0 ≤ k ∧ k ≤ sz ∧ ∀ q, 0 ≤ q → q < k → it q = -2 ∨ it q = τ 1 (2 + 7 * (r + q / w) + (g + q % w))) (fun k _ => (sz - k).toNat) ⟨rfl, by omega, by omega, fun q a b => by omega⟩ ?_
  intro bk k u hI hb
  obtain ⟨rfl, i1, i2, i6⟩ := hI
  have hmr := m1_rng (i := k) h1
  have hdv := m1_60 h1 h7 i1 (by omega)
  rw [hsz, i32_id (x := k) (by omega) (by omega), i32_id (x := sz) (by omega) (by omega), i32_id (x := 60 * a + k) (by omega) (by omega), idv_nn i1 (by omega) (by omega) (by omega), irm_nn i1 (by omega) (by omega) (by omega)]
  refine ⟨⟨ha, ha4⟩, fun hc => hy (iff.mpr ⟨gw, rh, fun q x y => i6 q x (by omega)⟩), fun hc => ⟨⟨by omega, by omega⟩, by omega, by omega, ?_⟩⟩
  obtain ⟨t1, t2⟩ := hit k i1 hc
  have hd1 := m1_dv h1 h7 i1 hc hm
  have cr := cell_rng hp (r := r + k / w) (g := g + k % w) (by omega) (by omega) (by omega) (by omega)
  rw [t1]
  unfold V_M_fits
  rw [t2]
  have go : (it k = -2 ∨ it k = u 1 (2 + 7 * (r + k / w) + (g + k % w))) → ((¬ i32 1 = 0 → bk (k + 1) u) ∧ (i32 1 = 0 → Q 0 u)) := fun ho => ⟨fun _ => hb _ _ ⟨rfl, by omega, by omega, fun q x y => by
    by_cases c : q = k
    · rw [c]; exact ho
    · exact i6 q x (by omega)⟩ (by omega), fun w => absurd w n10⟩
  have bad : (¬ it k = -2) → ¬ it k = u 1 (2 + 7 * (r + k / w) + (g + k % w)) → ((¬ i32 0 = 0 → bk (k + 1) u) ∧ (i32 0 = 0 → Q 0 u)) := fun b1 b2 => ⟨fun w => absurd z00 w, fun _ => no (fun z => by
    rcases z.2.2 k i1 hc with q | q
    · exact b1 q
    · exact b2 q)⟩
  refine ⟨fun e => go (Or.inl e), fun ne => ?_⟩
  refine in_ok t2 (i64_id (by decide) (by decide)) (i64_id (by decide) (by decide)) (fun hin => ⟨fun w => absurd w n10, fun _ => ?_⟩) (fun hout => ⟨fun _ => bad ne (fun z => by omega), fun w => absurd z00 w⟩)
  refine Mheld_ok (by omega) (by omega) (by omega) (by omega) ?_
  rw [i32_id (x := u 1 (2 + 7 * (r + k / w) + (g + k % w))) (by omega) (by omega)]
  exact ⟨fun h => bad ne (fun z => h z.symm), fun h => go (Or.inr h.symm)⟩
-- counting and the first
def mcR (fd : Int → Int → Bool) (r : Int) : Nat → Int
  | 0 => 0
  | g + 1 => mcR fd r g + (if fd r g then 1 else 0)
def mcT (fd : Int → Int → Bool) (G : Nat) : Nat → Int
  | 0 => 0
  | r + 1 => mcT fd G r + mcR fd r G
def mfR (fd : Int → Int → Bool) (r x : Int) : Nat → Int
  | 0 => x
  | g + 1 => if 0 ≤ mfR fd r x g then mfR fd r x g else if fd r g then 10 * r + g else mfR fd r x g
def mfT (fd : Int → Int → Bool) (G : Nat) : Nat → Int
  | 0 => -1
  | r + 1 => mfR fd r (mfT fd G r) G
theorem mcR_const {fd : Int → Int → Bool} {r x : Int} {g d : Nat} (h : ∀ q : Nat, g ≤ q → q < g + d → fd r q = false) : mcR fd r (g + d) = mcR fd r g ∧ mfR fd r x (g + d) = mfR fd r x g := by
  induction d with
  | zero => exact ⟨rfl, rfl⟩
  | succ d ih =>
    obtain ⟨i1, i2⟩ := ih (fun q a b => h q a (by omega))
    have hf := h (g + d) (by omega) (by omega)
    constructor
    · show mcR fd r (g + d) + (if fd r ((g + d : Nat) : Int) then 1 else 0) = _
      rw [hf, i1]; simp
    · show (if 0 ≤ mfR fd r x (g + d) then mfR fd r x (g + d) else if fd r ((g + d : Nat) : Int) then 10 * r + ((g + d : Nat) : Int) else mfR fd r x (g + d)) = _
      rw [hf, i2]; simp
theorem mcT_const {fd : Int → Int → Bool} {G r d : Nat} (h : ∀ q : Nat, r ≤ q → q < r + d → ∀ g : Nat, g < G → fd q g = false) : mcT fd G (r + d) = mcT fd G r ∧ mfT fd G (r + d) = mfT fd G r := by
  induction d with
  | zero => exact ⟨rfl, rfl⟩
  | succ d ih =>
    obtain ⟨i1, i2⟩ := ih (fun q a b => h q a (by omega))
    have hf := mcR_const (fd := fd) (r := ((r + d : Nat) : Int)) (x := mfT fd G (r + d)) (g := 0) (d := G) (fun q _ b => h (r + d) (by omega) (by omega) q (by omega))
    rw [Nat.zero_add] at hf
    constructor
    · show mcT fd G (r + d) + mcR fd ((r + d : Nat) : Int) G = _
      rw [hf.1, i1]
      show mcT fd G r + 0 = _
      omega
    · show mfR fd ((r + d : Nat) : Int) (mfT fd G (r + d)) G = _
      rw [hf.2]
      exact i2
theorem mfR_keep {fd : Int → Int → Bool} {r x : Int} (hx : 0 ≤ x) (g : Nat) : mfR fd r x g = x := by
  induction g with
  | zero => rfl
  | succ g ih =>
    show (if 0 ≤ mfR fd r x g then mfR fd r x g else _) = x
    rw [ih, if_pos hx]
theorem mfT_keep {fd : Int → Int → Bool} {G r : Nat} (hx : 0 ≤ mfT fd G r) (d : Nat) : mfT fd G (r + d) = mfT fd G r := by
  induction d with
  | zero => rfl
  | succ d ih =>
    show mfR fd ((r + d : Nat) : Int) (mfT fd G (r + d)) G = _
    rw [ih, mfR_keep hx]
theorem mf_found {fd : Int → Int → Bool} {G : Nat} {r g : Nat} (hg : g < G) (hr : r < 12) (hf : fd r g = true) (h1 : ∀ q : Nat, q < r → ∀ p : Nat, p < G → fd q p = false) (h2 : ∀ p : Nat, p < g → fd r p = false) : mfT fd G 12 = 10 * r + g := by
  have e0 : mfT fd G r = -1 := by
    have := (mcT_const (fd := fd) (G := G) (r := 0) (d := r) (fun q _ b => h1 q (by omega))).2
    rw [Nat.zero_add] at this
    exact this
  have e1 : mfR fd r (-1) g = -1 := by
    have := (mcR_const (fd := fd) (r := (r : Int)) (x := -1) (g := 0) (d := g) (fun q _ b => h2 q (by omega))).2
    rw [Nat.zero_add] at this
    exact this
  have e2 : mfR fd r (-1) (g + 1) = 10 * r + g := by
    show (if 0 ≤ mfR fd r (-1) g then mfR fd r (-1) g else if fd r g then 10 * (r : Int) + g else mfR fd r (-1) g) = _
    rw [e1, hf]; simp
  have keep : ∀ d, mfR fd r (-1) (g + 1 + d) = 10 * r + g := by
    intro d
    induction d with
    | zero => exact e2
    | succ d ih =>
      show (if 0 ≤ mfR fd r (-1) (g + 1 + d) then mfR fd r (-1) (g + 1 + d) else _) = _
      rw [ih, if_pos (by omega)]
  have e3 : mfT fd G (r + 1) = 10 * r + g := by
    show mfR fd r (mfT fd G r) G = _
    rw [e0, ← keep (G - (g + 1)), show g + 1 + (G - (g + 1)) = G by omega]
  have := mfT_keep (fd := fd) (G := G) (r := r + 1) (by rw [e3]; omega) (12 - (r + 1))
  rw [show r + 1 + (12 - (r + 1)) = 12 by omega] at this
  rw [this, e3]

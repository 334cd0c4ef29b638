-- READ
def okc (T : Int → Int) (w i : Int) : Prop := (i % w = w - 1 → T i = 47 ∧ i / w < 11) ∧ (¬ i % w = w - 1 → T i = 46 ∨ (97 ≤ T i ∧ T i ≤ 102 ∧ ¬ (0 < i ∧ 97 ≤ T (i - 1) ∧ T (i - 1) ≤ 102)))
theorem wcase {w : Int} (h2 : 2 ≤ w) (h8 : w ≤ 8) : w = 2 ∨ w = 3 ∨ w = 4 ∨ w = 5 ∨ w = 6 ∨ w = 7 ∨ w = 8 := by omega
theorem md_rng {w i : Int} (h2 : 2 ≤ w) : 0 ≤ i % w ∧ i % w < w := ⟨Int.emod_nonneg _ (by omega), Int.emod_lt_of_pos _ (by omega)⟩
theorem md_last {w i : Int} (h2 : 2 ≤ w) (h8 : w ≤ 8) (h : i % w = w - 1) : (i + 1) % w = 0 ∧ (i + 1) / w = i / w + 1 := by
  rcases wcase h2 h8 with rfl | rfl | rfl | rfl | rfl | rfl | rfl <;> omega
theorem md_next {w i : Int} (h2 : 2 ≤ w) (h8 : w ≤ 8) (h : ¬ i % w = w - 1) : (i + 1) % w = i % w + 1 ∧ (i + 1) / w = i / w := by
  rcases wcase h2 h8 with rfl | rfl | rfl | rfl | rfl | rfl | rfl <;> omega
theorem md_prev {w i : Int} (h2 : 2 ≤ w) (h8 : w ≤ 8) (h : i % w = 0) : (i - 1) % w = w - 1 := by
  rcases wcase h2 h8 with rfl | rfl | rfl | rfl | rfl | rfl | rfl <;> omega
theorem md_dv {w i : Int} (h2 : 2 ≤ w) (h8 : w ≤ 8) (h0 : 0 ≤ i) (h : i ≤ 120) : 0 ≤ i / w ∧ i / w ≤ 60 := by
  rcases wcase h2 h8 with rfl | rfl | rfl | rfl | rfl | rfl | rfl <;> omega
theorem Mfault_ok {τ : St} {w L : Int} {Q : Int → St → Prop} (hw : τ 1 0 = w) (h2 : 2 ≤ w) (h8 : w ≤ 8) (hL : τ 0 12 = L) (h0 : 0 ≤ L) (h120 : L ≤ 120) (hT : ∀ i, 0 ≤ i → i < L → 0 ≤ τ 10 i ∧ τ 10 i ≤ 255)
    (k1 : ∀ i, 0 ≤ i → i < L → (∀ j, 0 ≤ j → j < i → okc (τ 10) w j) → ¬ okc (τ 10) w i → Q i τ) (k2 : (∀ j, 0 ≤ j → j < L → okc (τ 10) w j) → ¬ L % w = w - 1 → Q L τ) (k3 : (∀ j, 0 ≤ j → j < L → okc (τ 10) w j) → L % w = w - 1 → Q (-1) τ) : V_M_prickingFault τ Q := by
  unfold V_M_prickingFault
  dsimp only [V_M_gaps]
  intro x hx
  have hx' : x = w := by rw [hx, hw]; omega
  subst hx'
  have c97 : i64 97 = 97 := i64_id (by decide) (by decide)
  have c102 : i64 102 = 102 := i64_id (by decide) (by decide)
  refine wl1 (fun i u => u = τ ∧ 0 ≤ i ∧ i ≤ L ∧ ∀ j, 0 ≤ j → j < i → okc (τ 10) x j) (fun i _ => (L - i).toNat) ⟨rfl, by omega, by omega, fun j a b => by omega⟩ ?_
  intro bk i u hI hb
  obtain ⟨rfl, i1, i2, i3⟩ := hI
  have hm := md_rng (i := i) h2
  have hd := md_dv h2 h8 i1 (by omega)
  rw [hL, i32_id (x := i) (by omega) (by omega), i32_id (x := L) (by omega) (by omega), i32_id (x := x) (by omega) (by omega), i32_id (x := x - 1) (by omega) (by omega)]
  refine ⟨fun hc => ⟨by omega, ?_⟩, fun hc => ⟨⟨by omega, by omega⟩, fun c hcc => ?_⟩⟩
  · have hi : i = L := by omega
    have hm' := md_rng (i := L) h2
    rw [irm_nn h0 (by omega) (by omega) (by omega), i32_id (x := L % x) (by omega) (by omega)]
    rw [hi] at i3
    exact ⟨fun z => k2 i3 z, fun z => k3 i3 z⟩
  · have hcr := hT i i1 hc
    rw [← hcc] at hcr
    -- what both say of this place
    have go : okc (u 10) x i → bk (i + 1) u := fun ho => hb _ _ ⟨rfl, by omega, by omega, fun j a b => by
      by_cases cj : j = i
      · rw [cj]; exact ho
      · exact i3 j a (by omega)⟩ (by omega)
    have no : ¬ okc (u 10) x i → Q i u := fun hn => k1 i i1 hc i3 hn
    have j67 : ∀ r y : Int, (r = 0 ∨ r = 1) → (y = 0 ∨ y = 1) → (r = 1 ↔ 97 ≤ c ∧ c ≤ 102) → (y = 1 ↔ 0 < i ∧ 97 ≤ u 10 (i - 1) ∧ u 10 (i - 1) ≤ 102) → J_M_prickingFault_67 Q x i bk c r y u := by
      intro r y hr hy er ey
      unfold J_M_prickingFault_67 J_M_prickingFault_116 J_M_prickingFault_96
      rw [irm_nn i1 (by omega) (by omega) (by omega), idv_nn i1 (by omega) (by omega) (by omega), i32_id (x := x) (by omega) (by omega), i32_id (x := x - 1) (by omega) (by omega), i32_id (x := i % x) (by omega) (by omega), i32_id (x := i / x) (by omega) (by omega), i32_id (x := c) (by omega) (by omega), i32_id (x := r) (by omega) (by omega), i32_id (x := y) (by omega) (by omega)]
      refine ⟨by omega, fun hn => ⟨fun z => ⟨fun _ => go ⟨fun q => absurd q hn, fun _ => Or.inl (by rw [← hcc]; exact z)⟩, fun q => absurd q (by decide)⟩, fun z => ⟨fun z2 => ⟨fun q => absurd rfl q, fun _ => no (fun ho => ?_)⟩, fun z2 => ⟨fun z3 => ⟨fun q => absurd rfl q, fun _ => no (fun ho => ?_)⟩, fun z3 => ⟨fun _ => go ⟨fun q => absurd q hn, fun _ => Or.inr ?_⟩, fun q => absurd q (by decide)⟩⟩⟩⟩, fun hn => ⟨fun z => ⟨fun q => absurd rfl q, fun _ => no (fun ho => ?_)⟩, fun z => ⟨by omega, fun z2 => ⟨fun q => absurd rfl q, fun _ => no (fun ho => ?_)⟩, fun z2 => ⟨fun _ => go ⟨fun _ => ⟨by rw [← hcc]; exact z, z2⟩, fun q => absurd hn q⟩, fun q => absurd q (by decide)⟩⟩⟩⟩
      · rcases ho.2 hn with q | ⟨q1, q2, q3⟩
        · rw [← hcc] at q; exact z q
        · rw [← hcc] at q1 q2
          have := er.mpr ⟨q1, q2⟩
          omega
      · rcases ho.2 hn with q | ⟨q1, q2, q3⟩
        · rw [← hcc] at q; exact z q
        · exact q3 (ey.mp (by omega))
      · have hrr := er.mp (by omega)
        rw [← hcc]
        exact ⟨hrr.1, hrr.2, fun q => by have := ey.mpr q; omega⟩
      · have := (ho.1 hn).1
        rw [← hcc] at this
        exact z this
      · have := (ho.1 hn).2
        omega
    have j66 : ∀ r : Int, (r = 0 ∨ r = 1) → (r = 1 ↔ 97 ≤ c ∧ c ≤ 102) → ¬ (0 < i ∧ 97 ≤ u 10 (i - 1) ∧ u 10 (i - 1) ≤ 102) → J_M_prickingFault_66 Q x i bk c r u := by
      intro r hr er hn
      unfold J_M_prickingFault_66
      exact j67 r 0 hr (Or.inl rfl) er ⟨fun q => absurd q (by decide), fun q => absurd q hn⟩
    have rest : ∀ r : Int, (r = 0 ∨ r = 1) → (r = 1 ↔ 97 ≤ c ∧ c ≤ 102) → ((i ≤ 0 → J_M_prickingFault_66 Q x i bk c r u) ∧ (0 < i → (0 ≤ i32 (i - 1) ∧ i32 (i - 1) < 120) ∧ V_M_in u (i32 (u 10 (i32 (i - 1)))) 97 102 (fun (r16 : Int) (σ15 : St) => ((i32 r16 = 0 → J_M_prickingFault_66 Q x i bk c r σ15) ∧ (¬ i32 r16 = 0 → J_M_prickingFault_67 Q x i bk c r 1 σ15))))) := by
      intro r hr er
      refine ⟨fun z => j66 r hr er (by omega), fun z => ?_⟩
      have hp := hT (i - 1) (by omega) (by omega)
      rw [i32_id (x := i - 1) (by omega) (by omega), i32_id (x := u 10 (i - 1)) (by omega) (by omega)]
      exact ⟨⟨by omega, by omega⟩, in_ok (i64_id (by omega) (by omega)) c97 c102 (fun q => ⟨fun w => absurd w n10, fun _ => j67 r 1 hr (Or.inr rfl) er ⟨fun _ => ⟨z, q⟩, fun _ => rfl⟩⟩) (fun q => ⟨fun _ => j66 r hr er (fun w => q w.2), fun w => absurd z00 w⟩)⟩
    rw [i32_id (x := c) (by omega) (by omega)]
    exact in_ok (i64_id (by omega) (by omega)) c97 c102 (fun q => rest 1 (Or.inr rfl) ⟨fun _ => q, fun _ => rfl⟩) (fun q => rest 0 (Or.inl rfl) ⟨fun w => absurd w (by decide), fun w => absurd w q⟩)
theorem Cfault_ok {σ : St} {T : Int → Int} {a w L : Int} {Q : Int → St → Prop} (ha : a = w - 1) (h2 : 2 ≤ w) (h8 : w ≤ 8) (hL : σ 53 1 = L) (h0 : 0 ≤ L) (h120 : L ≤ 120) (hT : ∀ i, 0 ≤ i → i < L → σ 54 i = T i ∧ 0 ≤ T i ∧ T i ≤ 255)
    (k1 : ∀ i, 0 ≤ i → i < L → (∀ j, 0 ≤ j → j < i → okc T w j) → ¬ okc T w i → Q i σ) (k2 : (∀ j, 0 ≤ j → j < L → okc T w j) → ¬ L % w = w - 1 → Q L σ) (k3 : (∀ j, 0 ≤ j → j < L → okc T w j) → L % w = w - 1 → Q (-1) σ) : V_Tape_prickingFault σ a Q := by
  subst ha
  unfold V_Tape_prickingFault
  refine wl4 (fun i x4 x3 x2 u => u = σ ∧ 0 ≤ i ∧ i ≤ L ∧ (∀ j, 0 ≤ j → j < i → okc T w j) ∧ x3 = i % w ∧ x2 = i / w ∧ x2 ≤ 11 ∧ (x4 = 0 ∨ x4 = 1) ∧ (x4 = 1 ↔ ¬ i % w = 0 ∧ 97 ≤ T (i - 1) ∧ T (i - 1) ≤ 102)) (fun i _ _ _ _ => (L - i).toNat) ⟨rfl, by omega, by omega, fun j a b => by omega, by simp, by simp, by decide, Or.inl rfl, ⟨fun q => absurd q (by decide), fun q => absurd (by simp) q.1⟩⟩ ?_
  intro bk i x4 x3 x2 u hI hb
  obtain ⟨rfl, i1, i2, i3, rfl, rfl, i5, i6, i7⟩ := hI
  have hm := md_rng (i := i) h2
  have hd := md_dv h2 h8 i1 (by omega)
  rw [hL, i32_id (x := i) (by omega) (by omega), i32_id (x := L) (by omega) (by omega), i32_id (x := w - 1) (by omega) (by omega), i32_id (x := i % w) (by omega) (by omega), i32_id (x := i / w) (by omega) (by omega)]
  refine ⟨fun hc => ?_, fun hc => ⟨⟨by omega, by omega⟩, fun c hcc => ?_⟩⟩
  · have hi : i = L := by omega
    subst hi
    exact ⟨fun z => k2 i3 z, fun z => k3 i3 z⟩
  · have hcr := hT i i1 hc
    rw [hcr.1] at hcc
    rw [i32_id (x := c) (by omega) (by omega)]
    have all : okc T w i → ∀ j, 0 ≤ j → j < i + 1 → okc T w j := fun ho j a b => by
      by_cases cj : j = i
      · rw [cj]; exact ho
      · exact i3 j a (by omega)
    have no : ¬ okc T w i → Q i u := fun hn => k1 i i1 hc i3 hn
    refine ⟨fun hn => ?_, fun hn => ⟨fun z => no (fun ho => ?_), fun z => ⟨fun z2 => ?_, fun z2 => no (fun ho => ?_)⟩⟩⟩
    · obtain ⟨n1, n2⟩ := md_next h2 h8 hn
      have go : ∀ y : Int, (y = 0 ∨ y = 1) → (y = 1 ↔ 97 ≤ c ∧ c ≤ 102) → okc T w i → bk (i + 1) y (i % w + 1) (i / w) u := fun y hy ey ho => hb _ _ _ _ _ ⟨rfl, by omega, by omega, all ho, n1.symm, n2.symm, i5, hy, by
        rw [ey, n1, show i + 1 - 1 = i by omega, ← hcc]
        exact ⟨fun q => ⟨by omega, q⟩, fun q => q.2⟩⟩ (by omega)
      have j93 : ∀ y : Int, (y = 0 ∨ y = 1) → (y = 1 ↔ 97 ≤ c ∧ c ≤ 102) → (c = 46 ∨ y = 1) → J_Tape_prickingFault_93 Q i x4 (i % w) (i / w) bk y u := by
        intro y hy ey hor
        unfold J_Tape_prickingFault_93
        rw [i32_id (x := y) (by omega) (by omega), i32_id (x := x4) (by omega) (by omega)]
        refine ⟨fun z => go y hy ey ⟨fun q => absurd q hn, fun _ => Or.inl (by omega)⟩, fun z => ⟨fun z2 => go y hy ey ⟨fun q => absurd q hn, fun _ => Or.inr ?_⟩, fun z2 => no (fun ho => ?_)⟩⟩
        · have := ey.mp (by omega)
          refine ⟨by omega, by omega, fun q => ?_⟩
          by_cases cz : i % w = 0
          · have hp := (i3 (i - 1) (by omega) (by omega)).1 (md_prev h2 h8 cz)
            omega
          · have := i7.mpr ⟨cz, q.2⟩
            omega
        · have hx := i7.mp (by omega)
          rcases ho.2 hn with q | ⟨q1, q2, q3⟩
          · have := ey.mp (by omega); omega
          · refine q3 ⟨?_, hx.2⟩
            by_cases c0 : i = 0
            · exfalso; apply hx.1; rw [c0]; simp
            · omega
      have j79 : ∀ y : Int, (y = 0 ∨ y = 1) → (y = 1 ↔ 97 ≤ c ∧ c ≤ 102) → J_Tape_prickingFault_79 Q i x4 (i % w) (i / w) bk c y u := by
        intro y hy ey
        unfold J_Tape_prickingFault_79
        rw [i32_id (x := c) (by omega) (by omega), i32_id (x := y) (by omega) (by omega)]
        refine ⟨fun z => j93 y hy ey (Or.inl z), fun z => ⟨fun z2 => no (fun ho => ?_), fun z2 => j93 y hy ey (Or.inr (by omega))⟩⟩
        rcases ho.2 hn with q | ⟨q1, q2, q3⟩
        · omega
        · have := ey.mpr ⟨by omega, by omega⟩
          omega
      have j78 : ¬ (97 ≤ c ∧ c ≤ 102) → J_Tape_prickingFault_78 Q i x4 (i % w) (i / w) bk c u := fun q => by
        unfold J_Tape_prickingFault_78
        exact j79 0 (Or.inl rfl) ⟨fun w => absurd w (by decide), fun w => absurd w q⟩
      exact ⟨fun z => j78 (by omega), fun z => ⟨fun z2 => j78 (by omega), fun z2 => j79 1 (Or.inr rfl) ⟨fun _ => ⟨z, z2⟩, fun _ => rfl⟩⟩⟩
    · have := (ho.1 hn).1
      omega
    · obtain ⟨n1, n2⟩ := md_last h2 h8 hn
      refine hb _ _ _ _ _ ⟨rfl, by omega, by omega, all ⟨fun _ => ⟨by omega, by omega⟩, fun q => absurd hn q⟩, n1.symm, n2.symm, by omega, Or.inl rfl, ⟨fun q => absurd q (by decide), fun q => absurd n1 q.1⟩⟩ (by omega)
    · have := (ho.1 hn).2
      omega
-- what is read
def pcT (T : Int → Int) (w n k : Int) : Int := if k % 7 < w - 1 ∧ w * (k / 7) + k % 7 < n ∧ ¬ T (w * (k / 7) + k % 7) = 46 then T (w * (k / 7) + k % 7) - 97 else -1
theorem pcT_0 {T : Int → Int} {w k : Int} (h2 : 2 ≤ w) (hk : 0 ≤ k) : pcT T w 0 k = -1 := by
  unfold pcT
  rw [if_neg]
  intro h
  have : 0 ≤ w * (k / 7) := Int.mul_nonneg (by omega) (by omega)
  omega
theorem pc_at {w i k : Int} (h2 : 2 ≤ w) (h8 : w ≤ 8) (hk : k % 7 < w - 1) (e : w * (k / 7) + k % 7 = i) : k / 7 = i / w ∧ k % 7 = i % w := by
  rcases wcase h2 h8 with rfl | rfl | rfl | rfl | rfl | rfl | rfl <;> omega
theorem pc_at' {w i k : Int} (h2 : 2 ≤ w) (h8 : w ≤ 8) (hr : i % w < w - 1) (e : k = 7 * (i / w) + i % w) : k % 7 < w - 1 ∧ w * (k / 7) + k % 7 = i := by
  rcases wcase h2 h8 with rfl | rfl | rfl | rfl | rfl | rfl | rfl <;> omega
theorem pcT_last {T : Int → Int} {w i k : Int} (h2 : 2 ≤ w) (h8 : w ≤ 8) (hi : i % w = w - 1 ∨ T i = 46) : pcT T w (i + 1) k = pcT T w i k := by
  unfold pcT
  by_cases c : k % 7 < w - 1 ∧ w * (k / 7) + k % 7 < i ∧ ¬ T (w * (k / 7) + k % 7) = 46
  · rw [if_pos c, if_pos ⟨c.1, by omega, c.2.2⟩]
  · rw [if_neg c, if_neg]
    intro h
    have e : w * (k / 7) + k % 7 = i := by
      by_cases cc : w * (k / 7) + k % 7 < i
      · exact absurd ⟨h.1, cc, h.2.2⟩ c
      · omega
    have := pc_at h2 h8 h.1 e
    rcases hi with q | q
    · omega
    · rw [e] at h
      exact h.2.2 q
theorem pcT_put {T : Int → Int} {w i k : Int} (h2 : 2 ≤ w) (h8 : w ≤ 8) (hr : i % w < w - 1) (hi : ¬ T i = 46) : pcT T w (i + 1) k = if k = 7 * (i / w) + i % w then T i - 97 else pcT T w i k := by
  by_cases ck : k = 7 * (i / w) + i % w
  · rw [if_pos ck]
    obtain ⟨e1, e2⟩ := pc_at' h2 h8 hr ck
    unfold pcT
    rw [e2, if_pos ⟨e1, by omega, hi⟩]
  · rw [if_neg ck]
    unfold pcT
    by_cases c : k % 7 < w - 1 ∧ w * (k / 7) + k % 7 < i ∧ ¬ T (w * (k / 7) + k % 7) = 46
    · rw [if_pos c, if_pos ⟨c.1, by omega, c.2.2⟩]
    · rw [if_neg c, if_neg]
      intro h
      have e : w * (k / 7) + k % 7 = i := by
        by_cases cc : w * (k / 7) + k % 7 < i
        · exact absurd ⟨h.1, cc, h.2.2⟩ c
        · omega
      have := pc_at h2 h8 h.1 e
      omega
theorem okc_row {T : Int → Int} {w L : Int} (h2 : 2 ≤ w) (h8 : w ≤ 8) (hT : ∀ j, 0 ≤ j → j < L → okc T w j) (h120 : L ≤ 120) {i : Int} (h0 : 0 ≤ i) (hi : i < L) : i / w ≤ 11 := by
  by_cases c : 12 * w ≤ i
  · have hj := hT (12 * w - 1) (by omega) (by omega)
    have : (12 * w - 1) % w = w - 1 ∧ (12 * w - 1) / w = 11 := by
      rcases wcase h2 h8 with rfl | rfl | rfl | rfl | rfl | rfl | rfl <;> decide
    have := (hj.1 this.1).2
    omega
  · rcases wcase h2 h8 with rfl | rfl | rfl | rfl | rfl | rfl | rfl <;> omega
theorem prickInto_ok {σ : St} {T : Int → Int} {w L : Int} {Q : St → Prop} (h2 : 2 ≤ w) (h8 : w ≤ 8) (hL : σ 53 1 = L) (h0 : 0 ≤ L) (h120 : L ≤ 120) (hT : ∀ i, 0 ≤ i → i < L → σ 54 i = T i ∧ 0 ≤ T i ∧ T i ≤ 255) (ho : ∀ j, 0 ≤ j → j < L → okc T w j)
    (h : ∀ σ', (∀ k, 0 ≤ k → k < 84 → σ' 2 k = pcT T w L k) → (∀ k, k ≠ 2 → σ' k = σ k) → Q σ') : V_Tape_prickInto σ Q := by
  unfold V_Tape_prickInto
  refine fillI_ok (by decide) ?_
  refine wl3 (fun i x3 x2 u => 0 ≤ i ∧ i ≤ L ∧ x3 = i % w ∧ x2 = i / w ∧ (∀ k, 0 ≤ k → k < 84 → u 2 k = pcT T w i k) ∧ ∀ k, k ≠ 2 → u k = σ k) (fun i _ _ _ => (L - i).toNat) ⟨by omega, by omega, by simp, by simp, fun k a b => ?_, fun k a => by rw [sf_row _ a]⟩ ?_
  · rw [sf_at, pcT_0 h2 a]
    exact if_pos ⟨a, b⟩
  · intro bk i x3 x2 u hI hb
    obtain ⟨i1, i2, rfl, rfl, i5, i6⟩ := hI
    have hm := md_rng (i := i) h2
    have hd := md_dv h2 h8 i1 (by omega)
    rw [i6 53 (by decide), i6 54 (by decide), hL, i32_id (x := i) (by omega) (by omega), i32_id (x := L) (by omega) (by omega), i32_id (x := i % w) (by omega) (by omega), i32_id (x := i / w) (by omega) (by omega)]
    refine ⟨fun hc => ?_, fun hc => ⟨⟨by omega, by omega⟩, ?_⟩⟩
    · have : i = L := by omega
      subst this
      exact h u i5 i6
    · obtain ⟨t1, t2, t3⟩ := hT i i1 hc
      have hoi := ho i i1 hc
      have hrow := okc_row h2 h8 ho h120 i1 hc
      rw [t1, i32_id (x := T i) (by omega) (by omega), i32_id (x := i / w * 7 + i % w) (by omega) (by omega)]
      refine ⟨fun hn => ⟨⟨by omega, by omega⟩, ?_⟩, fun hn => ?_⟩
      · have hnl : ¬ i % w = w - 1 := fun z => hn (hoi.1 z).1
        obtain ⟨n1, n2⟩ := md_next h2 h8 hnl
        refine ⟨fun hp => hb _ _ _ _ ⟨by omega, by omega, n1.symm, n2.symm, fun k a b => ?_, i6⟩ (by omega), fun hp => ⟨fun z => by omega, fun z => ⟨fun z2 => by omega, fun z2 => ⟨⟨by omega, by omega⟩, ⟨by omega, by omega⟩, fun v hv => hb _ _ _ _ ⟨by omega, by omega, n1.symm, n2.symm, fun k a b => ?_, fun k a => by rw [hv, ss_row _ a]; exact i6 k a⟩ (by omega)⟩⟩⟩⟩
        · rw [pcT_last h2 h8 (Or.inr hp)]
          exact i5 k a b
        · rw [pcT_put h2 h8 (by omega) hp, hv, ss_self]
          show (if k = i / w * 7 + i % w then T i - 97 else u 2 k) = _
          by_cases ck : k = i / w * 7 + i % w
          · rw [if_pos ck, if_pos (by omega)]
          · rw [if_neg ck, if_neg (by omega)]
            exact i5 k a b
      · have hnl : i % w = w - 1 := by
          by_cases c : i % w = w - 1
          · exact c
          · have := hoi.2 c
            omega
        obtain ⟨n1, n2⟩ := md_last h2 h8 hnl
        refine hb _ _ _ _ ⟨by omega, by omega, n1.symm, n2.symm, fun k a b => ?_, i6⟩ (by omega)
        rw [pcT_last h2 h8 (Or.inl hnl)]
        exact i5 k a b

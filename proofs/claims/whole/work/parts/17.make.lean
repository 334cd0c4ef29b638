theorem cross_ok {σ : St} {o : Nat} {w : AW} {p s b : Int} {Q : St → Prop} (hC : CW σ o w) (hG : awG w) (hp : 0 ≤ p) (hp2 : p < 15) (hs : s = 1 ∨ s = 2) (hlen : w.2.2.length < 800) (h96 : hM (hR w.2.2) p < 96)
    (h : ∀ σ', CW σ' o (awX w p s b) → cfr o (o + 11) σ σ' → Q σ') : V_Weave_cross o σ p s Q := by
  obtain ⟨c1, c2, c3, c4, c5⟩ := hC
  have hwf := hG.1
  have e1 : i32 p = p := i32_id (by omega) (by omega)
  have e2 : i32 (p + 1) = p + 1 := i32_id (by omega) (by omega)
  have b1 := hwf.1 p hp (by omega)
  have b2 := hwf.1 (p + 1) (by omega) (by omega)
  have l1 := c1 p hp (by omega)
  have l2 := c1 (p + 1) (by omega) (by omega)
  have hne : ¬ w.1 p = w.1 (p + 1) := fun z => by have := hwf.2 p (p + 1) (by omega) (by omega) (by omega) (by omega) z; omega
  obtain ⟨r1, r2, r3⟩ := x_rng (s := s) hwf hp hp2
  have hs2 : i32 s = s := i32_id (by omega) (by omega)
  unfold V_Weave_cross
  rw [e1, e2, l1, l2, hs2]
  refine ⟨⟨hp, by omega⟩, fun lf hlf => ⟨⟨by omega, by omega⟩, fun rg hrg => ⟨⟨hp, by omega⟩, fun t3 h3 => ⟨⟨by omega, by omega⟩, fun t4 h4 => ?_⟩⟩⟩⟩
  rw [i32_id (x := rg) (by omega) (by omega), i32_id (x := lf) (by omega) (by omega)]
  refine ⟨⟨by omega, by omega⟩, fun t5 h5 => ⟨⟨by omega, by omega⟩, fun t6 h6 => ?_⟩⟩
  have f6 : cfr (o + 1) (o + 2) σ t6 := by
    rw [h6, h5, h4, h3]
    exact (((cfr.s (by omega) (by omega)).tr (cfr.s (by omega) (by omega))).tr (cfr.s (by omega) (by omega))).tr (cfr.s (by omega) (by omega))
  have p6 : CP t6 o w.2.1 w.2.2 := c3.fr (fun k a b => f6 k (by omega))
  have d1 : ∀ i, 0 ≤ i → i < 16 → t6 (o + 1) i = (awX w p s b).1 i := by
    intro i a c
    rw [h6, ss_row _ (by omega), h5, ss_row _ (by omega), h4, ss_self]
    show (if i = p + 1 then lf else t3 (o + 1) i) = upf (upf w.1 p (w.1 (p + 1))) (p + 1) (w.1 p) i
    rw [h3, ss_self]
    unfold upf
    by_cases q1 : i = p + 1
    · rw [if_pos q1, if_pos q1, hlf]
    · rw [if_neg q1, if_neg q1]
      by_cases q2 : i = p
      · simp only [q2, if_true]
        exact hrg
      · simp only [q2, if_false]
        exact c1 i a c
  have d2 : ∀ t, 0 ≤ t → t < 16 → 0 ≤ t6 (o + 2) t ∧ t6 (o + 2) t < 16 ∧ (awX w p s b).1 (t6 (o + 2) t) = t := by
    intro t a c
    have v : t6 (o + 2) t = if t = lf then p + 1 else if t = rg then p else σ (o + 2) t := by
      rw [h6, ss_self]
      show (if t = lf then p + 1 else t5 (o + 2) t) = _
      rw [h5, ss_self, h4, ss_row _ (by omega), h3, ss_row _ (by omega)]
    rw [v]
    show _ ∧ _ ∧ upf (upf w.1 p (w.1 (p + 1))) (p + 1) (w.1 p) _ = t
    unfold upf
    by_cases q1 : t = lf
    · simp only [q1, if_true]
      exact ⟨by omega, by omega, by rw [← hlf]⟩
    · by_cases q2 : t = rg
      · rw [if_neg q1, if_pos q2, if_neg (by omega), if_pos rfl]
        exact ⟨by omega, by omega, by rw [q2, hrg]⟩
      · obtain ⟨z1, z2, z3⟩ := c2 t a c
        rw [if_neg q1, if_neg q2]
        refine ⟨z1, z2, ?_⟩
        rw [if_neg (fun z => q2 (by rw [hrg, ← z]; exact z3.symm)), if_neg (fun z => q1 (by rw [hlf, ← z]; exact z3.symm))]
        exact z3
  have tail : ∀ ov un : Int, ov = xOv w p s → un = xUn w p s → J_Weave_cross_74 o p s Q ov un t6 := by
    intro ov un hov hun
    unfold J_Weave_cross_74
    rw [hov, hun]
    refine pass_ok (p := p) (s := s) (b := b) p6 hG.2.2 (by omega) r1.1 r1.2 r2.1 r2.2 r3 (fun t7 q1 q2 => ?_)
    have hp7 : HP t7 (o + 9) (hR w.2.2) := (c5.fr f6 (by omega)).fr q2 (by omega)
    refine HeapAdd_ok hp7 (hR_wf hG.2.1) hp hp2 hs (by have := hR_len hG.2.1; omega) h96 (fun t8 q3 q4 t9 h9 => h t9 ⟨fun i a c => ?_, fun t a c => ?_, ?_, ?_, ?_⟩ ?_)
    · rw [h9, ss_row _ (by omega), q4 _ (by omega), q2 _ (by omega)]
      exact d1 i a c
    · rw [h9, ss_row _ (by omega), q4 _ (by omega), q2 _ (by omega)]
      exact d2 t a c
    · refine CP.fr (σ := t7) q1 (fun k a c => ?_)
      rw [h9, ss_row _ (by omega), q4 k (by omega)]
    · rw [h9, ss_at, q4 _ (by omega), q2 _ (by omega), f6 _ (by omega), c4, awX_len]
      omega
    · have : hR (awX w p s b).2.2 = hadd (hR w.2.2) p s := hR_snoc _ _
      rw [this]
      refine q3.fr (lo := o) (hi := o) ?_ (by omega)
      rw [h9]
      exact cfr.s (by omega) (by omega)
    · rw [h9]
      refine cfr.tr (cfr.tr (cfr.tr (b := t6) ?_ (c := t7) ?_) (c := t8) ?_) (cfr.s (by omega) (by omega))
      · exact f6.mono (by omega) (by omega)
      · exact q2.mono (by omega) (by omega)
      · exact q4.mono (by omega) (by omega)
  have mid : ∀ ov : Int, ov = xOv w p s → J_Weave_cross_63 o p s Q lf rg ov t6 := by
    intro ov hov
    unfold J_Weave_cross_63
    rw [hs2]
    exact ⟨fun hc => tail ov lf hov (by rw [hlf]; unfold xUn; rw [if_neg hc]), fun hc => tail ov rg hov (by rw [hrg]; unfold xUn; rw [if_pos hc])⟩
  exact ⟨fun hc => mid rg (by rw [hrg]; unfold xOv; rw [if_neg hc]), fun hc => mid lf (by rw [hlf]; unfold xOv; rw [if_pos hc])⟩
/-- heights about a gap -/
def hgt (w : AW) (q : Int) : Int := hT (hR w.2.2) q
theorem hgt_X {w : AW} {p s b B : Int} (hG : awG w) (h : hgt w (p - 1) ≤ B ∧ hgt w p ≤ B ∧ hgt w (p + 1) ≤ B) : hM (hR w.2.2) p ≤ B ∧ hgt (awX w p s b) p ≤ B + 1 ∧ ∀ q, q ≠ p → hgt (awX w p s b) q = hgt w q := by
  have hm : hM (hR w.2.2) p ≤ B := by
    unfold hM
    unfold hgt at h
    omega
  have e : hR (awX w p s b).2.2 = hadd (hR w.2.2) p s := hR_snoc _ _
  have := hadd_le (hR_wf hG.2.1) (s := s) hm
  unfold hgt
  rw [e]
  exact ⟨hm, this⟩
theorem hgt_L {w : AW} {c g b B : Int} (hg : 0 ≤ g) (hg2 : g < 7) (hG : awG w) (h : ∀ q, 2 * g - 1 ≤ q → q ≤ 2 * g + 3 → hgt w q ≤ B) :
    (∀ q, 2 * g - 1 ≤ q → q ≤ 2 * g + 3 → hgt (awL w c g b) q ≤ B + 1) ∧ ∀ q, (q < 2 * g ∨ 2 * g + 2 < q) → hgt (awL w c g b) q = hgt w q := by
  have one : ∀ s, (∀ q, 2 * g - 1 ≤ q → q ≤ 2 * g + 3 → hgt (awX w (2 * g + 1) s b) q ≤ B + 1) ∧ ∀ q, (q < 2 * g ∨ 2 * g + 2 < q) → hgt (awX w (2 * g + 1) s b) q = hgt w q := by
    intro s
    obtain ⟨_, x2, x3⟩ := hgt_X (p := 2 * g + 1) (s := s) (b := b) (B := B) hG ⟨h _ (by omega) (by omega), h _ (by omega) (by omega), h _ (by omega) (by omega)⟩
    refine ⟨fun q a c => ?_, fun q a => x3 q (by omega)⟩
    by_cases e : q = 2 * g + 1
    · rw [e]; exact x2
    · rw [x3 q e]
      have := h q a c
      omega
  have two : ∀ s, (s = 1 ∨ s = 2) → (∀ q, 2 * g - 1 ≤ q → q ≤ 2 * g + 3 → hgt (awX (awX w (2 * g) s b) (2 * g + 2) s b) q ≤ B + 1) ∧ ∀ q, (q < 2 * g ∨ 2 * g + 2 < q) → hgt (awX (awX w (2 * g) s b) (2 * g + 2) s b) q = hgt w q := by
    intro s hs
    obtain ⟨_, x2, x3⟩ := hgt_X (p := 2 * g) (s := s) (b := b) (B := B) hG ⟨h _ (by omega) (by omega), h _ (by omega) (by omega), h _ (by omega) (by omega)⟩
    have hG2 : awG (awX w (2 * g) s b) := awX_g hG (by omega) (by omega) hs
    obtain ⟨_, y2, y3⟩ := hgt_X (p := 2 * g + 2) (s := s) (b := b) (B := B) hG2 ⟨by rw [x3 _ (by omega)]; exact h _ (by omega) (by omega), by rw [x3 _ (by omega)]; exact h _ (by omega) (by omega), by rw [x3 _ (by omega)]; exact h _ (by omega) (by omega)⟩
    refine ⟨fun q a c => ?_, fun q a => by rw [y3 q (by omega), x3 q (by omega)]⟩
    by_cases e : q = 2 * g + 2
    · rw [e]; exact y2
    · rw [y3 q e]
      by_cases e2 : q = 2 * g
      · rw [e2]; exact x2
      · rw [x3 q e2]
        have := h q a c
        omega
  unfold awL
  split
  · exact one 1
  · split
    · exact one 2
    · split
      · exact two 2 (Or.inr rfl)
      · exact two 1 (Or.inl rfl)
theorem hgt_N {w : AW} {f : Int → Int} {g b B : Int} (hg : 0 ≤ g) (hg2 : g < 7) (hG : awG w) (h : ∀ q, 2 * g - 1 ≤ q → q ≤ 2 * g + 3 → hgt w q ≤ B) (n : Nat) :
    (∀ q, 2 * g - 1 ≤ q → q ≤ 2 * g + 3 → hgt (awN w f g b n) q ≤ B + n) ∧ ∀ q, (q < 2 * g ∨ 2 * g + 2 < q) → hgt (awN w f g b n) q = hgt w q := by
  induction n with
  | zero => exact ⟨fun q a c => by have := h q a c; show hgt w q ≤ _; omega, fun q _ => rfl⟩
  | succ n ih =>
    obtain ⟨x1, x2⟩ := hgt_L (c := f n) (b := b) hg hg2 (awN_g (f := f) (b := b) hg hg2 hG n) ih.1
    refine ⟨fun q a c => ?_, fun q a => (x2 q a).trans (ih.2 q a)⟩
    have := x1 q a c
    show hgt (awL (awN w f g b n) (f n) g b) q ≤ _
    omega
theorem hgt_S {N : Int → Int} {w : AW} {k g b B : Int} (hg : 0 ≤ g) (hg2 : g < 7) (hG : awG w) (hw : wordOk N k) (h : ∀ q, 2 * g - 1 ≤ q → q ≤ 2 * g + 3 → hgt w q ≤ B) :
    (∀ q, 2 * g - 1 ≤ q → q ≤ 2 * g + 3 → hgt (awS N w k g b) q ≤ B + 8) ∧ ∀ q, (q < 2 * g ∨ 2 * g + 2 < q) → hgt (awS N w k g b) q = hgt w q := by
  have e : ∀ q, hgt (awU w g 4) q = hgt w q := fun q => by unfold hgt; rw [awU_rec]
  obtain ⟨x1, x2⟩ := hgt_N (w := awU w g 4) (f := fun i => N (87 + 9 * k + i)) (b := b) (B := B) hg hg2 (awU_g hG 4) (fun q a c => by rw [e]; exact h q a c) (N (86 + 9 * k)).toNat
  have h8 := hw.2.1
  have h1 := hw.1
  refine ⟨fun q a c => ?_, fun q a => by rw [← e q]; exact x2 q a⟩
  have := x1 q a c
  show hgt (awN (awU w g 4) (fun i => N (87 + 9 * k + i)) g b (N (86 + 9 * k)).toNat) q ≤ _
  omega
theorem Cletter_ok {σ : St} {o : Nat} {w : AW} {c g b i B : Int} {bk : Int → St → Prop} (hC : CW σ o w) (hG : awG w) (hg : 0 ≤ g) (hg2 : g < 7) (hlen : w.2.2.length + 2 ≤ 800) (hc : c = 99 ∨ c = 67 ∨ c = 116 ∨ c = 84) (hB : ∀ q, 2 * g - 1 ≤ q → q ≤ 2 * g + 3 → hgt w q ≤ B) (hB2 : B < 96) (h : ∀ σ', CW σ' o (awL w c g b) → cfr o (o + 11) σ σ' → bk (i + 1) σ') :
    ((i32 c = 99 → J_Weave_make_79 o g i bk c σ) ∧ (¬ i32 c = 99 → ((¬ i32 c = 84 → J_Weave_make_84 o g i bk c 2 σ) ∧ (i32 c = 84 → J_Weave_make_79 o g i bk c σ)))) := by
  have hci : i32 c = c := i32_id (by omega) (by omega)
  rw [hci]
  have main : ∀ s : Int, (s = 1 ∨ s = 2) → (c = 99 ∨ c = 84 → s = 1) → (c = 67 ∨ c = 116 → s = 2) → J_Weave_make_84 o g i bk c s σ := by
    intro s hs s1 s2
    unfold J_Weave_make_84
    rw [hci]
    have one : (c = 99 ∨ c = 67) → J_Weave_make_100 o g i bk s σ := by
      intro hcc
      unfold J_Weave_make_100
      have e : awL w c g b = awX w (2 * g + 1) s b := by
        unfold awL
        rcases hcc with e | e
        · rw [if_pos e, s1 (Or.inl e)]
        · rw [if_neg (by omega), if_pos e, s2 (Or.inl e)]
      obtain ⟨x1, _, _⟩ := hgt_X (p := 2 * g + 1) (s := s) (b := b) (B := B) hG ⟨hB _ (by omega) (by omega), hB _ (by omega) (by omega), hB _ (by omega) (by omega)⟩
      exact cross_ok (b := b) hC hG (by omega) (by omega) hs (by omega) (by omega) (fun τ1 m1 f1 => h τ1 (by rw [e]; exact m1) f1)
    refine ⟨fun hc1 => one (Or.inl hc1), fun hc1 => ⟨fun hc2 => ?_, fun hc2 => one (Or.inr hc2)⟩⟩
    have e : awL w c g b = awX (awX w (2 * g) s b) (2 * g + 2) s b := by
      unfold awL
      rw [if_neg hc1, if_neg hc2]
      by_cases c3 : c = 116
      · rw [if_pos c3, s2 (Or.inr c3)]
      · rw [if_neg c3, s1 (Or.inr (by omega))]
    obtain ⟨x1, x2, x3⟩ := hgt_X (p := 2 * g) (s := s) (b := b) (B := B) hG ⟨hB _ (by omega) (by omega), hB _ (by omega) (by omega), hB _ (by omega) (by omega)⟩
    have hG2 : awG (awX w (2 * g) s b) := awX_g hG (by omega) (by omega) hs
    obtain ⟨y1, _, _⟩ := hgt_X (p := 2 * g + 2) (s := s) (b := b) (B := B) hG2 ⟨by rw [x3 _ (by omega)]; exact hB _ (by omega) (by omega), by rw [x3 _ (by omega)]; exact hB _ (by omega) (by omega), by rw [x3 _ (by omega)]; exact hB _ (by omega) (by omega)⟩
    refine cross_ok (b := b) hC hG (by omega) (by omega) hs (by omega) (by omega) (fun τ1 m1 f1 => ?_)
    exact cross_ok (b := b) m1 hG2 (by omega) (by omega) hs (by rw [awX_len]; omega) (by omega) (fun τ2 m2 f2 => h τ2 (by rw [e]; exact m2) (f1.tr f2))
  refine ⟨fun h1 => ?_, fun h1 => ⟨fun h2 => ?_, fun h2 => ?_⟩⟩
  · unfold J_Weave_make_79
    exact main 1 (Or.inl rfl) (fun _ => rfl) (fun z => by omega)
  · exact main 2 (Or.inr rfl) (fun z => by omega) (fun _ => rfl)
  · unfold J_Weave_make_79
    exact main 1 (Or.inl rfl) (fun _ => rfl) (fun z => by omega)
/-- the class's words are those of N -/
def wdRel (σ : St) (N : Int → Int) (k : Int) : Prop := σ 4 k = N (86 + 9 * k) ∧ ∀ i, 0 ≤ i → i < 8 → σ 3 (k * 8 + i) = N (87 + 9 * k + i)
theorem make_ok {σ : St} {o : Nat} {N : Int → Int} {w : AW} {k g b B : Int} {Q : St → Prop} (ho : 6 < o) (hC : CW σ o w) (hG : awG w) (hk : 0 ≤ k) (hk2 : k < 6) (hg : 0 ≤ g) (hg2 : g < 7) (hw : wordOk N k) (hr : wdRel σ N k) (hlen : w.2.2.length + 16 ≤ 800) (hB : ∀ q, 2 * g - 1 ≤ q → q ≤ 2 * g + 3 → hgt w q ≤ B) (hB2 : B + 8 ≤ 96)
    (h : ∀ σ', CW σ' o (awS N w k g b) → cfr o (o + 11) σ σ' → Q σ') : V_Weave_make o σ k g Q := by
  obtain ⟨w1, w2, w3⟩ := hw
  have eB : ∀ q, hgt (awU w g 4) q = hgt w q := fun q => by unfold hgt; rw [awU_rec]
  unfold V_Weave_make
  intro x hx
  subst hx
  have fin : ∀ u, CW u o (awU w g 4) → cfr o (o + 11) σ u → WL1 (fun (bk7 : Int → St → Prop) (x4_5 : Int) (σ6 : St) => (0 ≤ i32 k ∧ i32 k < 6) ∧ ((i32 (σ6 4 (i32 k)) ≤ i32 x4_5 → Q σ6) ∧ (i32 x4_5 < i32 (σ6 4 (i32 k)) → (0 ≤ i32 ((k * 8) + x4_5) ∧ i32 ((k * 8) + x4_5) < 48) ∧ ∀ x5_8 : Int, x5_8 = σ6 3 (i32 ((k * 8) + x4_5)) → ((i32 x5_8 = 99 → J_Weave_make_79 o g x4_5 bk7 x5_8 σ6) ∧ (¬ i32 x5_8 = 99 → ((¬ i32 x5_8 = 84 → J_Weave_make_84 o g x4_5 bk7 x5_8 2 σ6) ∧ (i32 x5_8 = 84 → J_Weave_make_79 o g x4_5 bk7 x5_8 σ6))))))) 0 u := by
    intro u m f
    refine wl1 (fun i v => 0 ≤ i ∧ i ≤ N (86 + 9 * k) ∧ CW v o (awN (awU w g 4) (fun i => N (87 + 9 * k + i)) g b i.toNat) ∧ cfr o (o + 11) σ v) (fun i _ => (N (86 + 9 * k) - i).toNat) ⟨by omega, by omega, m, f⟩ ?_
    intro bk i v hI hb
    obtain ⟨h1, h2, h3, h4⟩ := hI
    have v4 : v 4 k = N (86 + 9 * k) := by rw [h4 4 (by omega)]; exact hr.1
    rw [i32_id (x := k) (by omega) (by omega), v4, i32_id (x := i) (by omega) (by omega), i32_id (x := N (86 + 9 * k)) (by omega) (by omega), i32_id (x := k * 8 + i) (by omega) (by omega)]
    refine ⟨⟨hk, hk2⟩, fun hc => ?_, fun hc => ⟨⟨by omega, by omega⟩, fun c hcc => ?_⟩⟩
    · have : i = N (86 + 9 * k) := by omega
      subst this
      exact h v h3 h4
    · rw [h4 3 (by omega), hr.2 i h1 (by omega)] at hcc
      obtain ⟨n, hn⟩ : ∃ n : Nat, i = n := ⟨i.toNat, by omega⟩
      subst hn
      have e5 : ((n : Int) + 1).toNat = n + 1 := by omega
      have e6 : ((n : Int)).toNat = n := by omega
      rw [e6] at h3
      have hl := awN_len (awU w g 4) (fun i => N (87 + 9 * k + i)) g b n
      rw [awU_rec] at hl
      obtain ⟨hn1, _⟩ := hgt_N (w := awU w g 4) (f := fun i => N (87 + 9 * k + i)) (b := b) (B := B) hg hg2 (awU_g hG 4) (fun q a c => by rw [eB]; exact hB q a c) n
      rw [hcc]
      refine Cletter_ok (b := b) h3 (awN_g hg hg2 (awU_g hG 4) n) hg hg2 (by omega) (w3 n h1 hc) hn1 (by omega) (fun u1 m1 f1 => ?_)
      refine hb _ _ ⟨by omega, by omega, ?_, h4.tr f1⟩ (by omega)
      rw [e5]
      exact m1
  refine wl1 (fun x u => ∃ n : Nat, n ≤ 4 ∧ x = 2 * g + n ∧ CW u o (awU w g n) ∧ cfr o (o + 11) σ u) (fun x _ => (2 * g + 4 - x).toNat) ⟨0, by omega, by omega, hC, cfr.rf⟩ ?_
  intro bk x u hI hb
  obtain ⟨n, h1, h2, h3, h4⟩ := hI
  have e2 : i32 x = x := i32_id (by omega) (by omega)
  have e3 : i32 (2 * g + 4) = 2 * g + 4 := i32_id (by omega) (by omega)
  rw [e2, e3]
  refine ⟨fun hc => ?_, fun hc => ?_⟩
  · have : n = 4 := by omega
    subst this
    exact fin u h3 h4
  · have hx1 : (awU w g n).1 x = u (o + 1) x := (h3.1 x (by omega) (by omega)).symm
    have hrr := (awU_wf (g := g) hG.1 n).1 x (by omega) (by omega)
    rw [hx1] at hrr
    have e4 : i32 (u (o + 1) x) = u (o + 1) x := i32_id (by omega) (by omega)
    rw [e4]
    refine ⟨⟨by omega, by omega⟩, hrr, hrr, fun u1 hu1 => ?_⟩
    have hf : cfr (o + 3) (o + 3) u u1 := by rw [hu1]; exact cfr.s (by omega) (by omega)
    refine hb _ _ ⟨n + 1, by omega, by omega, ?_, h4.tr (hf.mono (by omega) (by omega))⟩ (by omega)
    have hx2 : (2 * g + (n : Int)) = x := h2.symm
    obtain ⟨q1, q2, q3, q4, q5⟩ := h3
    refine ⟨fun i a b => ?_, fun t a b => ?_, ⟨fun t a b => ?_, fun x y a b c d => ?_⟩, ?_, ?_⟩
    · rw [hf _ (by omega)]; exact q1 i a b
    · rw [hf _ (by omega)]; exact q2 t a b
    · obtain ⟨z1, z2, z3, z4, z5⟩ := q3.1 t a b
      rw [hf (o + 4) (by omega), hf (o + 5) (by omega), hf (o + 6) (by omega), hf (o + 7) (by omega)]
      refine ⟨?_, z2, z3, z4, z5⟩
      show _ = upf (awU w g n).2.1 ((awU w g n).1 (2 * g + n)) ((awU w g n).2.1 ((awU w g n).1 (2 * g + n)) + 1) t
      rw [hx2, hx1]
      unfold upf
      rw [hu1, ss_self]
      by_cases ct : t = u (o + 1) x
      · rw [if_pos ct, ← (q3.1 _ hrr.1 hrr.2).1]
        simp [ct]
      · rw [if_neg ct]
        simp only [ct, if_false]
        exact z1
    · rw [hf _ (by omega)]; exact q3.2 x y a b c d
    · rw [hf _ (by omega)]; exact q4
    · exact q5.fr hf (by omega)
theorem clear_ok {σ : St} {o : Nat} {Q : St → Prop} (h : ∀ σ', CW σ' o aw0 → cfr o (o + 11) σ σ' → Q σ') : V_Weave_clear o σ Q := by
  unfold V_Weave_clear V_Weave_sendHome
  refine wl1 (fun i u => 0 ≤ i ∧ i ≤ 16 ∧ (∀ j, 0 ≤ j → j < i → u (o + 1) j = j ∧ u (o + 2) j = j) ∧ cfr o (o + 11) σ u) (fun i _ => (16 - i).toNat) ⟨by omega, by omega, fun j a b => by omega, cfr.rf⟩ ?_
  intro bk i u hI hb
  obtain ⟨h1, h2, h3, h4⟩ := hI
  rw [i32_id (x := i) (by omega) (by omega)]
  refine ⟨fun hc => ?_, fun hc => ⟨⟨by omega, hc⟩, fun u1 f1 => ⟨⟨by omega, hc⟩, fun u2 f2 => ?_⟩⟩⟩
  · refine fillI_ok (by omega) (fillI_ok (by omega) (fillI_ok (by omega) (fillI_ok (by omega) (fillI_ok (by omega) (fillI_ok (by omega) (HeapClear_ok (fun t q1 q2 t2 h9 => h t2 ⟨fun i a b => ?_, fun i a b => ?_, ⟨fun t a b => ?_, fun x y a b c d => ?_⟩, ?_, ?_⟩ ?_)))))))
    · rw [h9, ss_row _ (by omega), q2 _ (by omega), sf_row _ (by omega), sf_row _ (by omega), sf_row _ (by omega), sf_row _ (by omega), sf_row _ (by omega), sf_row _ (by omega)]
      exact (h3 i a (by omega)).1
    · rw [h9, ss_row _ (by omega), q2 _ (by omega), sf_row _ (by omega), sf_row _ (by omega), sf_row _ (by omega), sf_row _ (by omega), sf_row _ (by omega), sf_row _ (by omega), (h3 i a (by omega)).2]
      exact ⟨a, b, rfl⟩
    · rw [h9, ss_row _ (by omega), q2 _ (by omega), ss_row _ (by omega), q2 _ (by omega), ss_row _ (by omega), q2 _ (by omega), ss_row _ (by omega), q2 _ (by omega), ss_row _ (by omega), q2 _ (by omega)]
      have hr : 0 ≤ t ∧ t < ((16 : Nat) : Int) := ⟨a, b⟩
      refine ⟨?_, ?_, ?_, ?_, ?_⟩
      · rw [sf_row _ (by omega), sf_row _ (by omega), sf_row _ (by omega), sf_row _ (by omega), sf_row _ (by omega), sf_at]
        rw [if_pos hr]
        rfl
      · rw [sf_row _ (by omega), sf_row _ (by omega), sf_row _ (by omega), sf_row _ (by omega), sf_at]
        rw [if_pos hr]
        rfl
      · rw [sf_row _ (by omega), sf_row _ (by omega), sf_row _ (by omega), sf_at]
        rw [if_pos hr]
        rfl
      · rw [sf_row _ (by omega), sf_row _ (by omega), sf_at]
        rw [if_pos hr]
        rfl
      · rw [sf_row _ (by omega), sf_at]
        rw [if_pos hr]
        rfl
    · rw [h9, ss_row _ (by omega), q2 _ (by omega), sf_at]
      rw [if_pos ⟨by omega, by omega⟩]
      rfl
    · rw [h9, ss_at]
      rfl
    · refine q1.fr (lo := o) (hi := o) ?_ (by omega)
      rw [h9]
      exact cfr.s (by omega) (by omega)
    · rw [h9]
      refine (cfr.tr ?_ (q2.mono (by omega) (by omega))).tr (cfr.s (by omega) (by omega))
      exact (((((h4.tr (cfr.f (by omega) (by omega))).tr (cfr.f (by omega) (by omega))).tr (cfr.f (by omega) (by omega))).tr (cfr.f (by omega) (by omega))).tr (cfr.f (by omega) (by omega))).tr (cfr.f (by omega) (by omega))
  · refine hb _ _ ⟨by omega, by omega, fun j a b => ?_, ?_⟩ (by omega)
    · rw [f2, ss_row _ (by omega), ss_self, f1, ss_self, ss_row _ (by omega)]
      by_cases hj : j = i
      · simp [hj]
      · have := h3 j a (by omega)
        simp [hj, this]
    · rw [f2, f1]
      exact (h4.tr (cfr.s (by omega) (by omega))).tr (cfr.s (by omega) (by omega))

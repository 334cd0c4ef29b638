-- WORD
theorem awX_ind {w v : AW} (e1 : w.1 = v.1) (e2 : w.2.2 = v.2.2) (p s b : Int) : (awX w p s b).1 = (awX v p s b).1 ∧ (awX w p s b).2.2 = (awX v p s b).2.2 := by
  unfold awX xOv xUn
  simp only [e1, e2, and_self]
theorem awL_ind {w v : AW} (e1 : w.1 = v.1) (e2 : w.2.2 = v.2.2) (c g b : Int) : (awL w c g b).1 = (awL v c g b).1 ∧ (awL w c g b).2.2 = (awL v c g b).2.2 := by
  unfold awL
  split
  · exact awX_ind e1 e2 _ _ _
  · split
    · exact awX_ind e1 e2 _ _ _
    · split
      · have := awX_ind e1 e2 (2 * g) 2 b
        exact awX_ind this.1 this.2 _ _ _
      · have := awX_ind e1 e2 (2 * g) 1 b
        exact awX_ind this.1 this.2 _ _ _
theorem awN_ind {w v : AW} (e1 : w.1 = v.1) (e2 : w.2.2 = v.2.2) (f : Int → Int) (g b : Int) (n : Nat) : (awN w f g b n).1 = (awN v f g b n).1 ∧ (awN w f g b n).2.2 = (awN v f g b n).2.2 := by
  induction n with
  | zero => exact ⟨e1, e2⟩
  | succ n ih => exact awL_ind ih.1 ih.2 _ _ _
theorem awX_at (p s b : Int) : ∃ π : Int → Int, ∀ (w : AW) (i : Int), (awX w p s b).1 i = w.1 (π i) := by
  refine ⟨fun i => if i = p + 1 then p else if i = p then p + 1 else i, fun w i => ?_⟩
  show upf (upf w.1 p (w.1 (p + 1))) (p + 1) (w.1 p) i = _
  unfold upf
  simp only
  split
  · rfl
  · split
    · rfl
    · rfl
theorem awL_at (c g b : Int) : ∃ π : Int → Int, ∀ (w : AW) (i : Int), (awL w c g b).1 i = w.1 (π i) := by
  by_cases c1 : c = 99
  · obtain ⟨π, h⟩ := awX_at (2 * g + 1) 1 b
    exact ⟨π, fun w i => by unfold awL; rw [if_pos c1]; exact h w i⟩
  · by_cases c2 : c = 67
    · obtain ⟨π, h⟩ := awX_at (2 * g + 1) 2 b
      exact ⟨π, fun w i => by unfold awL; rw [if_neg c1, if_pos c2]; exact h w i⟩
    · by_cases c3 : c = 116
      · obtain ⟨π, h⟩ := awX_at (2 * g) 2 b
        obtain ⟨π', h'⟩ := awX_at (2 * g + 2) 2 b
        exact ⟨fun i => π (π' i), fun w i => by unfold awL; rw [if_neg c1, if_neg c2, if_pos c3, h', h]⟩
      · obtain ⟨π, h⟩ := awX_at (2 * g) 1 b
        obtain ⟨π', h'⟩ := awX_at (2 * g + 2) 1 b
        exact ⟨fun i => π (π' i), fun w i => by unfold awL; rw [if_neg c1, if_neg c2, if_neg c3, h', h]⟩
theorem awN_at (f : Int → Int) (g b : Int) (n : Nat) : ∃ π : Int → Int, ∀ (w : AW) (i : Int), (awN w f g b n).1 i = w.1 (π i) := by
  induction n with
  | zero => exact ⟨fun i => i, fun w i => rfl⟩
  | succ n ih =>
    obtain ⟨π, h⟩ := ih
    obtain ⟨π', h'⟩ := awL_at (f n) g b
    exact ⟨fun i => π (π' i), fun w i => by
      show (awL (awN w f g b n) (f n) g b).1 i = _
      rw [h', h]⟩
theorem awN_comp (w : AW) (f : Int → Int) (g b : Int) (n : Nat) (i : Int) : (awN w f g b n).1 i = w.1 ((awN aw0 f g b n).1 i) := by
  obtain ⟨π, h⟩ := awN_at f g b n
  rw [h w i, h aw0 i]
  rfl
theorem itF_in (A : Int → Int) (t : Int) (n : Nat) : itF A (A t) n = itF A t (n + 1) := by
  induction n with
  | zero => rfl
  | succ n ih =>
    show A (itF A (A t) n) = A (itF A t (n + 1))
    rw [ih]
theorem itF_add (A : Int → Int) (t : Int) (m n : Nat) : itF A t (m + n) = itF A (itF A t n) m := by
  induction m with
  | zero => rw [Nat.zero_add]; rfl
  | succ m ih =>
    rw [show m + 1 + n = m + n + 1 by omega]
    show A (itF A t (m + n)) = A (itF A (itF A t n) m)
    rw [ih]
theorem isT_dvd {P : Int → Int} {t : Int} {n : Nat} (h : isT P t n) (m : Nat) : itF P t m = t ↔ n ∣ m := by
  have per : ∀ q, itF P t (n * q) = t := by
    intro q
    induction q with
    | zero => rfl
    | succ q ih => rw [Nat.mul_succ, itF_add, h.2.2.1]; exact ih
  have e : itF P t m = itF P t (m % n) := by
    have : m = m % n + n * (m / n) := (Nat.mod_add_div m n).symm
    rw [this, itF_add, per, ← this]
  have hlt := Nat.mod_lt m (show n > 0 by have := h.1; omega)
  constructor
  · intro hm
    rw [e] at hm
    by_cases c : m % n = 0
    · exact Nat.dvd_of_mod_eq_zero c
    · exact absurd hm (h.2.2.2 (m % n) (by omega) hlt)
  · intro ⟨q, hq⟩
    rw [hq]
    exact per q
theorem lcF_dvd {tf : Int → Nat} (n m : Nat) : lcF tf n ∣ m ↔ ∀ i : Nat, i < n → tf i ∣ m := by
  induction n with
  | zero => exact ⟨fun _ i hi => by omega, fun _ => Nat.one_dvd _⟩
  | succ n ih =>
    constructor
    · intro h i hi
      by_cases c : i = n
      · rw [c]; exact Nat.dvd_trans (Nat.dvd_lcm_right _ _) h
      · exact ih.mp (Nat.dvd_trans (Nat.dvd_lcm_left _ _) h) i (by omega)
    · intro h
      exact Nat.lcm_dvd (ih.mpr (fun i hi => h i (by omega))) (h n (by omega))
/-- going there and back -/
theorem itF_inv {A P : Int → Int} (hA : prm A) (hP : prm P) (h : ∀ t, 0 ≤ t → t < 16 → A (P t) = t) {t : Int} (h0 : 0 ≤ t) (h1 : t < 16) (n : Nat) : itF A t n = t ↔ itF P t n = t := by
  have back : ∀ (n : Nat) (t : Int), 0 ≤ t → t < 16 → itF A (itF P t n) n = t := by
    intro n
    induction n with
    | zero => intro t _ _; rfl
    | succ n ih =>
      intro t a b
      have r := itF_rng hP a b n
      rw [← itF_in A (itF P t (n + 1)) n]
      show itF A (A (P (itF P t n))) n = t
      rw [h _ r.1 r.2]
      exact ih t a b
  have inj : ∀ (n : Nat) (s t : Int), 0 ≤ s → s < 16 → 0 ≤ t → t < 16 → itF A s n = itF A t n → s = t := by
    intro n
    induction n with
    | zero => intro s t _ _ _ _ e; exact e
    | succ n ih =>
      intro s t a b c d e
      have r1 := itF_rng hA a b n
      have r2 := itF_rng hA c d n
      exact ih s t a b c d (hA.2 _ _ r1.1 r1.2 r2.1 r2.2 e)
  constructor
  · intro e
    have r := itF_rng hP h0 h1 n
    exact inj n _ _ r.1 r.2 h0 h1 (by rw [back n t h0 h1, e])
  · intro e
    have := back n t h0 h1
    rw [e] at this
    exact this
theorem op_word {σ τ : St} (hR : Rel σ τ) {a1 a2 : Int} (r1 : i32 a1 = a1) (r2 : i32 a2 = a2) : V_P_word σ a1 a2 (fun r σ' => V_M_word τ a1 a2 (fun r' τ' => i32 r = i32 r' ∧ Rel σ' τ')) := by
  have p1 := hR.2.1
  have p2 := hR.2.2.1
  have c5 : i64 5 = 5 := i64_id (by decide) (by decide)
  have c7 : i64 7 = 7 := i64_id (by decide) (by decide)
  have bad : ¬ (0 ≤ a1 ∧ a1 < 6 ∧ 0 ≤ a2 ∧ a2 ≤ 7) → V_P_fail σ 1 (fun r σ' => V_M_word τ a1 a2 (fun r' τ' => i32 r = i32 r' ∧ Rel σ' τ')) := by
    intro hc
    refine both_fail (e := -1000000001) hR (by decide) (by decide) (by decide) (VM := fun τ Q => V_M_word τ a1 a2 Q) (fun Q hQ => ?_)
    unfold V_M_word
    rw [r1, r2]
    refine in_ok (i64_of32 r1) k64_0 c5 (fun z => ⟨fun w => absurd w n10, fun _ => ?_⟩) (fun _ => ⟨fun _ => hQ, fun w => absurd z00 w⟩)
    exact in_ok (i64_of32 r2) k64_0 c7 (fun y => absurd (by omega) hc) (fun _ => ⟨fun w => absurd z00 w, fun _ => hQ⟩)
  unfold V_P_word
  rw [r1, r2]
  refine isKind_ok r1 (fun h1 => ⟨fun w => absurd w n10, fun _ => ⟨fun z => bad (by omega), fun z => ⟨fun y => ?_, fun y => bad (by omega)⟩⟩⟩) (fun h1 => ⟨fun _ => bad (by omega), fun w => absurd z00 w⟩)
  obtain ⟨f, hf⟩ : ∃ f : Int → Int, f = fun i => τ 1 (87 + 9 * a1 + i) := ⟨_, rfl⟩
  obtain ⟨n, hn⟩ : ∃ n : Nat, n = (τ 1 (86 + 9 * a1)).toNat := ⟨_, rfl⟩
  have hw := p1.2.2.2.2.1 a1 h1.1 h1.2
  have hwd := PR_wd p2 h1.1 h1.2
  -- the reference, as far as the first time
  have mgo : ∀ Q : Int → St → Prop, (¬ a2 = 0 → ∀ v, MW v (awN aw0 f 0 0 n) → frm mwK mwJ τ v → ((¬ a2 = 1 → ((¬ a2 = 2 → ((a2 ≤ 3 → WL1 (fun (bk12 : Int → St → Prop) (x4_10 : Int) (σ11 : St) => ((¬ i32 (σ11 11 0) = 0 → J_M_word_159 a1 x4_10 bk12 σ11) ∧ (i32 (σ11 11 0) = 0 → ((¬ i32 (σ11 11 1) = 1 → J_M_word_159 a1 x4_10 bk12 σ11) ∧ (i32 (σ11 11 1) = 1 → ((¬ i32 (σ11 11 2) = 2 → J_M_word_159 a1 x4_10 bk12 σ11) ∧ (i32 (σ11 11 2) = 2 → ((i32 (σ11 11 3) = 3 → Q x4_10 σ11) ∧ (¬ i32 (σ11 11 3) = 3 → J_M_word_159 a1 x4_10 bk12 σ11))))))))) 1 v) ∧ (3 < a2 → WL1 (fun (bk18 : Int → St → Prop) (x4_16 : Int) (σ17 : St) => (0 ≤ i32 x4_16 ∧ i32 x4_16 < 16) ∧ ((i32 (σ17 11 (i32 x4_16)) = i32 (a2 - 4) → Q x4_16 σ17) ∧ (¬ i32 (σ17 11 (i32 x4_16)) = i32 (a2 - 4) → bk18 (x4_16 + 1) σ17))) 0 v))) ∧ (a2 = 2 → V_M_layers v (fun (r20 : Int) (σ19 : St) => Q (σ19 0 21) σ19)))) ∧ (a2 = 1 → Q (v 0 15) v))) → (a2 = 0 → Q (τ 1 (86 + 9 * a1)) τ) → V_M_word τ a1 a2 Q := by
    intro Q q1 q0
    unfold V_M_word
    rw [r1, r2]
    refine in_ok (i64_of32 r1) k64_0 c5 (fun _ => ⟨fun w => absurd w n10, fun _ => ?_⟩) (fun w => absurd (by omega) w)
    refine in_ok (i64_of32 r2) k64_0 c7 (fun _ => ⟨fun _ => ⟨fun ne => ?_, fun e => ?_⟩, fun w => absurd w n10⟩) (fun w => absurd ⟨z, y⟩ w)
    · refine Mbegins_ok (fun t m g => ?_)
      have t1 : t 1 = τ 1 := g.1 1 (by decide) (by decide)
      refine Mspells_ok (b := 0) m aw0_wf h1.1 h1.2 (by decide) (by decide) (by rw [t1]; exact hw) (by decide) (fun v m2 g2 x hx => ?_)
      rw [t1, ← hf, ← hn] at m2
      rw [hx]
      exact q1 ne v m2 (g.tr g2)
    · rw [i32_id (x := 86 + 9 * a1) (by omega) (by omega)]
      exact ⟨⟨by omega, by omega⟩, q0 e⟩
  refine ⟨fun ne => ?_, fun e => ⟨h1, mgo _ (fun w => absurd e w) (fun _ => ⟨?_, hR⟩)⟩⟩
  · unfold V_P_thinkWord
    refine clear_ok (fun s c g => ?_)
    have sP : wdRel s (τ 1) a1 := by
      unfold wdRel
      rw [g 4 (by omega), g 3 (by omega)]
      exact hwd
    refine make_ok (b := 0) (B := 0) (N := τ 1) (by decide) c aw0_g h1.1 h1.2 (by decide) (by decide) hw sP (by decide) (fun q _ _ => ?_) (by decide) (fun s2 c2 g2 s3 h3 => ?_)
    · show hT [] q ≤ 0
      exact Int.le_refl _
    have fs : thF σ s3 := ((thF.c g).tr (thF.c g2)).tr (by rw [h3]; exact thF.s)
    have hRs : Rel s3 τ := hR.th fs (Or.inl (by rw [h3, ss_at]))
    have c3 : CW s3 41 (awS (τ 1) aw0 a1 0 0) := CW.fe (σ := s2) c2 (fun k a b => by rw [h3, ss_row _ (by omega)])
    have e1 : (awS (τ 1) aw0 a1 0 0).1 = (awN aw0 f 0 0 n).1 ∧ (awS (τ 1) aw0 a1 0 0).2.2 = (awN aw0 f 0 0 n).2.2 := by
      unfold awS
      rw [← hf, ← hn]
      exact awN_ind (awU_at _ _ _) (awU_rec _ _ _) _ _ _ _
    have wg : awG (awN aw0 f 0 0 n) := awN_g (by decide) (by decide) aw0_g n
    have n8 : n ≤ 8 := by have := hw.2.1; omega
    have wl : (awN aw0 f 0 0 n).2.2.length ≤ 16 := by
      have := awN_len aw0 f 0 0 n
      have e : aw0.2.2.length = 0 := rfl
      omega
    obtain ⟨cp, cq⟩ := CW_prm c3
    rw [e1.1] at cq
    refine ⟨fun n1 => ⟨fun n2 => ⟨fun n3 => ?_, fun e3 => ?_⟩, fun e2 => ?_⟩, fun ee => ?_⟩
    · rw [i32_id (x := a2 - 4) (by omega) (by omega)]
      refine ⟨⟨by omega, by omega⟩, mgo _ (fun _ v m gv => ⟨fun _ => ⟨fun _ => ⟨fun w => by omega, fun _ => ?_⟩, fun w => absurd w n2⟩, fun w => absurd w n1⟩) (fun w => absurd w ne)⟩
      have hp := cq (a2 - 4) (by omega) (by omega)
      exact MplaceOf_ok (τ := v) (t := a2 - 4) (Q := fun r' τ' => i32 (s3 43 (a2 - 4)) = i32 r' ∧ Rel s3 τ') m wg.1 (i32_id (by omega) (by omega)) hp.1 hp.2.1 hp.2.2 ⟨rfl, hRs.fm (mw_sc gv)⟩
    · obtain ⟨tf, hT⟩ := turns_ex cp
      refine commonTurns_ok cp hT ?_
      refine mgo _ (fun _ v m gv => ⟨fun _ => ⟨fun _ => ⟨fun _ => ?_, fun w => by omega⟩, fun w => absurd w n2⟩, fun w => absurd w n1⟩) (fun w => absurd w ne)
      obtain ⟨A, hA⟩ : ∃ A, A = (awN aw0 f 0 0 n).1 := ⟨_, rfl⟩
      have pA : prm A := by rw [hA]; exact wg.1
      rw [← hA] at cq
      have home : ∀ t, 4 ≤ t → A t = t := by
        intro t ht
        rw [hA]
        exact (awN_b (n := 4) (by decide) (by decide) (aw0_b 4) n).2.1 t ht
      have wb : ∀ t, 4 ≤ t → ∀ m : Nat, itF A t m = t := by
        intro t ht m
        induction m with
        | zero => rfl
        | succ m ih =>
          show A (itF A t m) = t
          rw [ih]
          exact home t ht
      have all : ∀ m : Nat, (∀ t, 0 ≤ t → t < 4 → itF A t m = t) ↔ lcF tf 16 ∣ m := by
        intro m
        rw [lcF_dvd]
        constructor
        · intro h i hi
          refine (isT_dvd (hT i (by omega) (by omega)) m).mp ((itF_inv pA cp (fun t a b => (cq t a b).2.2) (by omega) (by omega) m).mp ?_)
          by_cases ci : (i : Int) < 4
          · exact h i (by omega) ci
          · exact wb i (by omega) m
        · intro h t a b
          have := h t.toNat (by omega)
          rw [show ((t.toNat : Nat) : Int) = t by omega] at this
          exact (itF_inv pA cp (fun t a b => (cq t a b).2.2) a (by omega) m).mpr ((isT_dvd (hT t a (by omega)) m).mpr this)
      obtain ⟨K, hK⟩ : ∃ K, K = lcF tf 16 := ⟨_, rfl⟩
      rw [← hK] at all ⊢
      have hK1 : 1 ≤ K ∧ K ≤ 720720 := by
        have := lcF_ok (tf := tf) 16 (fun i hi => by have := hT i (by omega) (by omega); exact ⟨this.1, this.2.1⟩)
        omega
      refine wl1 (fun i u => ∃ m : Nat, 1 ≤ m ∧ m ≤ K ∧ i = m ∧ frm mwK mwJ τ u ∧ ∃ w : AW, MW u w ∧ awWf w ∧ ∀ t, w.1 t = itF A t m) (fun i _ => (K - i).toNat) ⟨1, by omega, hK1.1, rfl, gv, _, m, wg.1, fun t => by rw [← hA]; rfl⟩ ?_
      intro bk i u hI hb
      obtain ⟨m, m1, m2, rfl, fu, w, mw, wf, wA⟩ := hI
      have j159 : ¬ (∀ t, 0 ≤ t → t < 4 → itF A t m = t) → J_M_word_159 a1 m bk u := by
        intro hno
        have hmK : m < K := by
          by_cases c : m = K
          · exfalso; apply hno; rw [all, c]; exact Nat.dvd_refl K
          · omega
        unfold J_M_word_159
        intro v hv
        have u1 : v 1 = τ 1 := by rw [hv, ss_row _ (by decide)]; exact fu.1 1 (by decide) (by decide)
        have mv : MW v (w.1, w.2.1, []) := by
          obtain ⟨x1, x2, x3, x4⟩ := mw
          refine ⟨fun i a b => by rw [hv, ss_row _ (by decide)]; exact x1 i a b, fun i a b => by rw [hv, ss_row _ (by decide)]; exact x2 i a b, by rw [hv, ss_at]; rfl, fun k r hr => by simp at hr⟩
        refine Mspells_ok (b := 0) mv wf h1.1 h1.2 (by decide) (by decide) (by rw [u1]; exact hw) (by simp) (fun v2 m3 g3 => ?_)
        rw [u1, ← hf, ← hn] at m3
        refine hb _ _ ⟨m + 1, by omega, by omega, by omega, (fu.tr (by rw [hv]; exact frm.s0 (by decide))).tr g3, _, m3, awN_wf (by decide) (by decide) (w := (w.1, w.2.1, [])) wf n, fun t => ?_⟩ (by omega)
        rw [awN_comp, ← hA, ← itF_in]
        exact wA (A t)
      have at_ : ∀ t, 0 ≤ t → t < 4 → i32 (u 11 t) = itF A t m := by
        intro t a b
        rw [mw.1 t a (by omega), wA t]
        have := itF_rng pA a (by omega) m
        exact i32_id (by omega) (by omega)
      rw [at_ 0 (by decide) (by decide), at_ 1 (by decide) (by decide), at_ 2 (by decide) (by decide), at_ 3 (by decide) (by decide)]
      refine ⟨fun h => j159 (fun q => h (q 0 (by decide) (by decide))), fun q0 => ⟨fun h => j159 (fun q => h (q 1 (by decide) (by decide))), fun q1 => ⟨fun h => j159 (fun q => h (q 2 (by decide) (by decide))), fun q2 => ⟨fun q3 => ?_, fun h => j159 (fun q => h (q 3 (by decide) (by decide)))⟩⟩⟩⟩
      have hd : K ∣ m := (all m).mp (fun t a b => by
        have : t = 0 ∨ t = 1 ∨ t = 2 ∨ t = 3 := by omega
        rcases this with rfl | rfl | rfl | rfl
        · exact q0
        · exact q1
        · exact q2
        · exact q3)
      have := Nat.le_of_dvd (by omega) hd
      have : m = K := by omega
      rw [this]
      exact ⟨rfl, hRs.fm (mw_sc fu)⟩
    · refine mgo _ (fun _ v m gv => ⟨fun _ => ⟨fun w => absurd e2 w, fun _ => ?_⟩, fun w => absurd w n1⟩) (fun w => absurd w ne)
      refine Mlayers_ok m wg.2.1 (by omega) (fun v2 ml _ g2 => ⟨?_, hRs.fm ((mw_sc gv).tr (g2.mono (by decide) (by decide)))⟩)
      have : s3 50 0 = _ := c3.2.2.2.2.1
      rw [this, e1.2, ml.1, List.length_reverse]
    · refine mgo _ (fun _ v m gv => ⟨fun w => absurd ee w, fun _ => ⟨?_, hRs.fm (mw_sc gv)⟩⟩) (fun w => absurd w ne)
      have : s3 41 9 = (awS (τ 1) aw0 a1 0 0).2.2.length := c3.2.2.2.1
      rw [this, e1.2, m.2.2.1]
  · have : σ 4 a1 = τ 1 (86 + 9 * a1) := hwd.1
    rw [this]

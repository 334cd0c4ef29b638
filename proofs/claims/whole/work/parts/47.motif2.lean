-- MOTIF: both sides
theorem op_motif {σ τ : St} (hRel : Rel σ τ) {a1 a2 a3 : Int} (r1 : i32 a1 = a1) (r2 : i32 a2 = a2) (r3 : i32 a3 = a3) : V_P_motif σ a1 a2 a3 (fun r σ' => V_M_motif τ a1 a2 a3 (fun r' τ' => i32 r = i32 r' ∧ Rel σ' τ')) := by
  obtain ⟨pl1, pl2, pl3⟩ := hRel.pl
  have p1 := hRel.2.1
  have p2 := hRel.2.2.1
  have c7 : i64 7 = 7 := i64_id (by decide) (by decide)
  -- the reference, as far as the sheet
  have mgo : ∀ Q : Int → St → Prop, (¬ (0 ≤ a1 ∧ a1 < 4 ∧ 1 ≤ a2 ∧ a2 ≤ 7 ∧ 0 ≤ a3 ∧ a3 ≤ 1) → V_M_errs τ (-1000000001) Q) → ((0 ≤ a1 ∧ a1 < 4 ∧ 1 ≤ a2 ∧ a2 ≤ 7 ∧ 0 ≤ a3 ∧ a3 ≤ 1) → ((0 ≤ a1 ∧ a1 < 4) ∧ ((0 ≤ i32 (τ 24 a1) → (0 ≤ a1 ∧ a1 < 4) ∧ ((i32 (τ 25 a1) = 0 → V_M_errs τ (-1000000003) Q) ∧ (¬ i32 (τ 25 a1) = 0 → (0 ≤ a1 ∧ a1 < 4) ∧ (¬ a2 = 0) ∧ ((i32 (irm (τ 25 a1) a2) = 0 → (0 ≤ a1 ∧ a1 < 4) ∧ (¬ a2 = 0) ∧ ∀ x4_13 : Int, x4_13 = idv (τ 25 a1) a2 → WL3 (fun (bk18 : Int → Int → Int → St → Prop) (x7_14 : Int) (x6_15 : Int) (x5_16 : Int) (σ17 : St) => ((12 < i32 (x7_14 + x4_13) → ((¬ a3 = 0 → ((0 ≤ i32 x6_15 → Q x6_15 σ17) ∧ (i32 x6_15 < 0 → V_M_errs σ17 (-1000000002) Q))) ∧ (a3 = 0 → Q x5_16 σ17))) ∧ (i32 (x7_14 + x4_13) ≤ 12 → WL3 (fun (bk25 : Int → Int → Int → St → Prop) (x8_21 : Int) (x6_22 : Int) (x5_23 : Int) (σ24 : St) => V_M_gaps σ24 (fun (r27 : Int) (σ26 : St) => ((i32 r27 < i32 (x8_21 + a2) → bk18 (x7_14 + 1) x6_22 x5_23 σ26) ∧ (i32 (x8_21 + a2) ≤ i32 r27 → V_M_isFound σ26 a1 a2 x7_14 x8_21 (fun (r29 : Int) (σ28 : St) => ((¬ i32 r29 = 0 → ((0 ≤ i32 x6_22 → bk25 (x8_21 + 1) x6_22 (x5_23 + 1) σ28) ∧ (i32 x6_22 < 0 → ∀ x6_30 : Int, x6_30 = (10 * x7_14) + x8_21 → bk25 (x8_21 + 1) x6_30 (x5_23 + 1) σ28))) ∧ (i32 r29 = 0 → bk25 (x8_21 + 1) x6_22 x5_23 σ28))))))) 0 x6_15 x5_16 σ17))) 0 (-1) 0 τ) ∧ (¬ i32 (irm (τ 25 a1) a2) = 0 → V_M_errs τ (-1000000003) Q))))) ∧ (i32 (τ 24 a1) < 0 → V_M_errs τ (-1000000007) Q)))) → V_M_motif τ a1 a2 a3 Q := by
    intro Q hbad hgood
    unfold V_M_motif
    refine MisSheet_ok r1 (fun h1 => ⟨fun w => absurd w n10, fun _ => ?_⟩) (fun h1 => ⟨fun _ => hbad (by omega), fun w => absurd z00 w⟩)
    rw [r1, r2, r3]
    refine in_ok (i64_of32 r2) k64_1 c7 (fun h2 => ⟨fun w => absurd w n10, fun _ => ?_⟩) (fun h2 => ⟨fun _ => hbad (by omega), fun w => absurd z00 w⟩)
    exact in_ok (i64_of32 r3) k64_0 k64_1 (fun h3 => ⟨fun _ => hgood (by omega), fun w => absurd w n10⟩) (fun h3 => ⟨fun w => absurd z00 w, fun _ => hbad (by omega)⟩)
  have bad : ¬ (0 ≤ a1 ∧ a1 < 4 ∧ 1 ≤ a2 ∧ a2 ≤ 7 ∧ 0 ≤ a3 ∧ a3 ≤ 1) → V_P_fail σ 1 (fun r σ' => V_M_motif τ a1 a2 a3 (fun r' τ' => i32 r = i32 r' ∧ Rel σ' τ')) := by
    intro hc
    exact both_fail (e := -1000000001) hRel (by decide) (by decide) (by decide) (VM := fun τ Q => V_M_motif τ a1 a2 a3 Q) (fun Q hQ => mgo Q (fun _ => hQ) (fun w => absurd w hc))
  unfold V_P_motif
  refine isSheet_ok r1 (fun h1 => ⟨fun w => absurd w n10, fun _ => ?_⟩) (fun h1 => ⟨fun _ => bad (by omega), fun w => absurd z00 w⟩)
  rw [r1, r2, r3]
  refine ⟨fun z => bad (by omega), fun z => ⟨fun y => bad (by omega), fun y => ⟨fun z3 => bad (by omega), fun z3 => ⟨fun y3 => ⟨h1, fun q hq => ?_⟩, fun y3 => bad (by omega)⟩⟩⟩⟩
  have ok : 0 ≤ a1 ∧ a1 < 4 ∧ 1 ≤ a2 ∧ a2 ≤ 7 ∧ 0 ≤ a3 ∧ a3 ≤ 1 := ⟨h1.1, h1.2, z, y, z3, y3⟩
  obtain ⟨i, hi⟩ : ∃ i : Nat, a1 = i := ⟨a1.toNat, by omega⟩
  have hq' : q = 57 + 2 * i := by omega
  subst hq'
  obtain ⟨s1, s2, s3, s4⟩ := hRel.1.2.1 i (by omega)
  rw [← hi] at s1 s2 s3 s4
  rw [s1, i32_id (x := τ 24 a1) (by omega) (by omega)]
  refine ⟨fun hne => ?_, fun he => ?_⟩
  · obtain ⟨y1, y2, y4, y5⟩ := s4 (by omega)
    obtain ⟨sz, hsz⟩ : ∃ sz, sz = τ 25 a1 := ⟨_, rfl⟩
    rw [← hsz] at y1 y2 y4
    rw [y1, i32_id (x := sz) (by omega) (by omega)]
    have m25 : i32 (τ 25 a1) = sz := by rw [← hsz]; exact i32_id (by omega) (by omega)
    have m24 : i32 (τ 24 a1) = τ 24 a1 := i32_id (by omega) (by omega)
    have hmr := m1_rng (i := sz) z
    have mrm : i32 (irm (τ 25 a1) a2) = sz % a2 := by rw [← hsz, irm_nn (by omega) (by omega) (by omega) (by omega)]; exact i32_id (by omega) (by omega)
    refine ⟨fun hz => ?_, fun hz => ⟨by omega, ?_⟩⟩
    · refine both_fail (e := -1000000003) hRel (by decide) (by decide) (by decide) (VM := fun τ Q => V_M_motif τ a1 a2 a3 Q) (fun Q hQ => mgo Q (fun w => absurd ok w) (fun _ => ?_))
      rw [m24, m25]
      exact ⟨h1, fun _ => ⟨h1, fun _ => hQ, fun w => absurd hz w⟩, fun w => by omega⟩
    · rw [irm_nn (by omega) (by omega) (by omega) (by omega), i32_id (x := sz % a2) (by omega) (by omega)]
      refine ⟨fun hm => ?_, fun hm => ?_⟩
      · obtain ⟨it, hitd⟩ : ∃ it : Int → Int, it = fun k => τ 26 (60 * a1 + k) := ⟨_, rfl⟩
        have hitC : ∀ k, 0 ≤ k → k < sz → σ (57 + 2 * i + 1) k = it k ∧ i64 (it k) = it k := fun k a b => by
          have := y5 k a (by omega)
          rw [hitd, show 57 + 2 * i + 1 = 58 + 2 * i by omega]
          exact this
        have hitM : ∀ k, 0 ≤ k → k < sz → τ 26 (60 * a1 + k) = it k ∧ i64 (it k) = it k := fun k a b => ⟨by rw [hitd], (hitC k a b).2⟩
        obtain ⟨fd, hfd⟩ : ∃ fd : Int → Int → Bool, fd = fun r g => fdB (τ 1) it a2 sz r g := ⟨_, rfl⟩
        have efd : ∀ r g, fdB (τ 1) it a2 sz r g = fd r g := fun r g => by rw [hfd]
        obtain ⟨G, hG⟩ : ∃ G : Nat, (G : Int) = τ 1 0 - 1 := ⟨(τ 1 0 - 1).toNat, by omega⟩
        obtain ⟨h, hh⟩ : ∃ h : Nat, (h : Int) = sz / a2 := ⟨(sz / a2).toNat, by have := m1_60 z y y2 y4; omega⟩
        have hh1 : 1 ≤ h ∧ h ≤ 60 := by
          have := m1_60 z y y2 y4
          have := m1_dv z y (i := 0) (j := sz) (by omega) (by omega) hm
          omega
        have far : ∀ r g : Int, (12 < r + h ∨ (G : Int) < g + a2) → fd r g = false := by
          intro r g hor
          rw [← efd]
          cases hb : fdB (τ 1) it a2 sz r g with
          | false => rfl
          | true =>
            have := (fdB_iff (by omega)).mp hb
            omega
        -- the reference's whole way
        have ref : ∀ Q : Int → St → Prop, (a3 = 0 → Q (mcT fd G 12) τ) → (a3 = 1 → (0 ≤ mfT fd G 12 → Q (mfT fd G 12) τ) ∧ (mfT fd G 12 < 0 → V_M_errs τ (-1000000002) Q)) → V_M_motif τ a1 a2 a3 Q := by
          intro Q q0 q1
          refine mgo Q (fun w => absurd ok w) (fun _ => ?_)
          rw [m24, m25, mrm]
          refine ⟨h1, fun _ => ⟨h1, fun w => absurd w hz, fun _ => ⟨h1, by omega, fun _ => ⟨h1, by omega, fun x hx => ?_⟩, fun w => absurd hm w⟩⟩, fun w => by omega⟩
          have hx' : x = h := by rw [hx, ← hsz, idv_nn (by omega) (by omega) (by omega) (by omega), hh]
          rw [hx']
          refine wl3 (fun x7 x6 x5 u => u = τ ∧ ∃ R : Nat, x7 = R ∧ (R + h ≤ 13 ∨ R = 0) ∧ x6 = mfT fd G R ∧ x5 = mcT fd G R ∧ -1 ≤ x6 ∧ x6 ≤ 200) (fun x7 _ _ _ => (14 - x7).toNat) ⟨rfl, 0, rfl, Or.inr rfl, rfl, rfl, by decide, by decide⟩ ?_
          intro bk x7 x6 x5 u hI hb
          obtain ⟨rfl, R, rfl, hR13, hx6, hx5, x61, x62⟩ := hI
          rw [i32_id (x := (R : Int) + h) (by omega) (by omega)]
          refine ⟨fun hc => ?_, fun hc => ?_⟩
          · have hR12 : R ≤ 12 := by omega
            have ec := mcT_const (fd := fd) (G := G) (r := R) (d := 12 - R) (fun q a b g _ => far q g (Or.inl (by omega)))
            rw [show R + (12 - R) = 12 by omega] at ec
            rw [ec.1] at q0
            rw [ec.2] at q1
            rw [i32_id (x := x6) (by omega) (by omega)]
            refine ⟨fun hne3 => ?_, fun he3 => by rw [hx5]; exact q0 he3⟩
            obtain ⟨b1, b2⟩ := q1 (by omega)
            rw [← hx6] at b1 b2
            exact ⟨b1, b2⟩
          · refine wl3 (fun x8 y6 y5 v => v = u ∧ ∃ g : Nat, x8 = g ∧ ((g : Int) + a2 ≤ G + 1 ∨ g = 0) ∧ y6 = mfR fd R (mfT fd G R) g ∧ y5 = mcT fd G R + mcR fd R g ∧ -1 ≤ y6 ∧ y6 ≤ 200) (fun x8 _ _ _ => (20 - x8).toNat) ⟨rfl, 0, rfl, Or.inr rfl, hx6, by rw [hx5]; show _ = _ + 0; omega, x61, x62⟩ ?_
            intro bk2 x8 y6 y5' v hI2 hb2
            obtain ⟨rfl, g, rfl, hg, hy6, hy5, y61, y62⟩ := hI2
            dsimp only [V_M_gaps]
            rw [← hG, i32_id (x := (G : Int)) (by omega) (by omega), i32_id (x := (g : Int) + a2) (by omega) (by omega)]
            refine ⟨fun hd => hb _ _ _ _ ⟨rfl, R + 1, by omega, Or.inl (by omega), ?_, ?_, y61, y62⟩ (by omega), fun hd => ?_⟩
            · have ec := (mcR_const (fd := fd) (r := (R : Int)) (x := mfT fd G R) (g := g) (d := G - g) (fun q a b => far R q (Or.inr (by omega)))).2
              rw [show g + (G - g) = G by omega] at ec
              rw [hy6, ← ec]
              rfl
            · have ec := (mcR_const (fd := fd) (r := (R : Int)) (x := mfT fd G R) (g := g) (d := G - g) (fun q a b => far R q (Or.inr (by omega)))).1
              rw [show g + (G - g) = G by omega] at ec
              rw [hy5, ← ec]
              rfl
            · have fR : ∀ b : Bool, fd R g = b → mfR fd R (mfT fd G R) (g + 1) = (if 0 ≤ y6 then y6 else if b then 10 * (R : Int) + g else y6) := by
                intro b hb'
                show (if 0 ≤ mfR fd R (mfT fd G R) g then mfR fd R (mfT fd G R) g else if fd R g then 10 * (R : Int) + g else mfR fd R (mfT fd G R) g) = _
                rw [← hy6, hb']
              have cR : ∀ b : Bool, fd R g = b → mcT fd G R + mcR fd R (g + 1) = y5' + (if b then 1 else 0) := by
                intro b hb'
                show mcT fd G R + (mcR fd R g + (if fd R g then 1 else 0)) = _
                rw [hy5, hb']
                omega
              refine Mfound_ok (it := it) p1 h1.1 h1.2 z y (by omega) y4 hm hsz.symm hitM (by omega) (by omega) (by omega) (by omega) (fun hf => ⟨fun _ => ?_, fun w => absurd w n10⟩) (fun hf => ⟨fun w => absurd z00 w, fun _ => hb2 _ _ _ _ ⟨rfl, g + 1, by omega, Or.inl (by omega), ?_, ?_, y61, y62⟩ (by omega)⟩)
              · rw [efd] at hf
                rw [i32_id (x := y6) (by omega) (by omega)]
                refine ⟨fun hp6 => hb2 _ _ _ _ ⟨rfl, g + 1, by omega, Or.inl (by omega), ?_, ?_, y61, y62⟩ (by omega), fun hp6 w hw => hb2 _ _ _ _ ⟨rfl, g + 1, by omega, Or.inl (by omega), ?_, ?_, by omega, by omega⟩ (by omega)⟩
                · rw [fR true hf, if_pos hp6]
                · rw [cR true hf]; rfl
                · rw [fR true hf, if_neg (by omega), hw]; rfl
                · rw [cR true hf]; rfl
              · rw [efd] at hf
                rw [fR false hf]
                simp
              · rw [efd] at hf
                rw [cR false hf]
                simp
        refine wl2 (fun x6 x5 u => u = σ ∧ ∃ R : Nat, R ≤ 12 ∧ x6 = R ∧ (¬ a3 = 1 → x5 = mcT fd G R) ∧ (a3 = 1 → ∀ q : Nat, q < R → ∀ p : Nat, p < G → fd q p = false)) (fun x6 _ _ => (12 - x6).toNat) ⟨rfl, 0, by omega, rfl, fun _ => rfl, fun _ q hq => by omega⟩ ?_
        intro bk x6 x5 u hI hb
        obtain ⟨rfl, R, hR12, rfl, hx5, hnone⟩ := hI
        rw [i32_id (x := (R : Int)) (by omega) (by omega)]
        refine ⟨fun hc => ?_, fun hc => ?_⟩
        · have hR' : R = 12 := by omega
          subst hR'
          refine ⟨fun hne3 => ref _ (fun _ => ⟨by rw [hx5 hne3], hRel⟩) (fun w => absurd w hne3), fun he3 => ?_⟩
          have hf : mfT fd G 12 = -1 := by
            have := (mcT_const (fd := fd) (G := G) (r := 0) (d := 12) (fun q _ b => hnone he3 q (by omega))).2
            rw [Nat.zero_add] at this
            exact this
          refine fail_ok (by decide) (by decide) (ref _ (fun w => by omega) (fun _ => ⟨fun w => by omega, fun _ => errs_ok (k := 2) (by decide) (by decide) (by decide) ⟨by decide, hRel.err (by decide) (by decide)⟩⟩))
        · refine wl2 (fun x7 y5 v => v = u ∧ ∃ g : Nat, g ≤ G ∧ x7 = g ∧ (¬ a3 = 1 → y5 = mcT fd G R + mcR fd R g) ∧ (a3 = 1 → ∀ p : Nat, p < g → fd R p = false)) (fun x7 _ _ => (G - x7).toNat) ⟨rfl, 0, by omega, rfl, fun w => by rw [hx5 w]; show _ = _ + 0; omega, fun _ p hp => by omega⟩ ?_
          intro bk2 x7 y5' v hI2 hb2
          obtain ⟨rfl, g, hg, rfl, hy5, hnone2⟩ := hI2
          rw [pl1, ← hG, i32_id (x := (G : Int)) (by omega) (by omega), i32_id (x := (g : Int)) (by omega) (by omega)]
          refine ⟨fun hd => hb _ _ _ ⟨rfl, R + 1, by omega, by omega, fun w => ?_, fun w q hq p hp => ?_⟩ (by omega), fun hd => ?_⟩
          · have : g = G := by omega
            rw [hy5 w, this]
            rfl
          · by_cases c : q = R
            · rw [c]; exact hnone2 w p (by omega)
            · exact hnone w q (by omega) p hp
          · refine fits_ok (N := τ 1) (it := it) p1 p2 z y (by omega) y4 hm y1 hitC (by omega) hc (by omega) (by omega) (fun hf => ⟨fun w => absurd w n10, fun _ => ⟨fun hne3 => hb2 _ _ _ ⟨rfl, g + 1, by omega, by omega, fun _ => ?_, fun w => absurd w hne3⟩ (by omega), fun he3 => ?_⟩⟩) (fun hf => ⟨fun _ => hb2 _ _ _ ⟨rfl, g + 1, by omega, by omega, fun w => ?_, fun w p hp => ?_⟩ (by omega), fun w => absurd z00 w⟩)
            · rw [efd] at hf
              rw [hy5 hne3]
              show _ = mcT fd G R + (mcR fd R g + (if fd R g then 1 else 0))
              rw [hf]
              simp only [if_true]
              omega
            · rw [efd] at hf
              have e := mf_found (fd := fd) (G := G) (r := R) (g := g) (by omega) (by omega) hf (hnone he3) (hnone2 he3)
              exact ref _ (fun w => by omega) (fun _ => ⟨fun _ => ⟨by rw [e], hRel⟩, fun w => by omega⟩)
            · rw [efd] at hf
              rw [hy5 w]
              show _ = mcT fd G R + (mcR fd R g + (if fd R g then 1 else 0))
              rw [hf]
              simp
            · rw [efd] at hf
              by_cases c : p = g
              · rw [c]; exact hf
              · exact hnone2 w p (by omega)
      · refine both_fail (e := -1000000003) hRel (by decide) (by decide) (by decide) (VM := fun τ Q => V_M_motif τ a1 a2 a3 Q) (fun Q hQ => mgo Q (fun w => absurd ok w) (fun _ => ?_))
        rw [m24, m25, mrm]
        exact ⟨h1, fun _ => ⟨h1, fun w => absurd w hz, fun _ => ⟨h1, by omega, fun w => absurd w hm, fun _ => hQ⟩⟩, fun w => by omega⟩
  · refine both_fail (e := -1000000007) hRel (by decide) (by decide) (by decide) (VM := fun τ Q => V_M_motif τ a1 a2 a3 Q) (fun Q hQ => mgo Q (fun w => absurd ok w) (fun _ => ?_))
    rw [i32_id (x := τ 24 a1) (by omega) (by omega)]
    exact ⟨h1, fun w => by omega, fun _ => hQ⟩

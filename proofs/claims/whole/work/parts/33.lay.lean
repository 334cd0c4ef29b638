-- LAY
def lyN (N : Int → Int) (p v : Int) : Int → Int := fun i => if i = p then v else N i
theorem holds_ok {σ τ : St} (hR : Rel σ τ) {a1 b : Int} {Q : Int → St → Prop} (r1 : i32 a1 = a1) (rb : i32 b = b) (h1 : 0 ≤ a1 ∧ a1 < 12 ∧ 0 ≤ b ∧ b < τ 1 0 - 1 ∧ 0 ≤ τ 1 (2 + 7 * a1 + b) → Q 1 σ) (h0 : ¬ (0 ≤ a1 ∧ a1 < 12 ∧ 0 ≤ b ∧ b < τ 1 0 - 1 ∧ 0 ≤ τ 1 (2 + 7 * a1 + b)) → Q 0 σ) : V_P_holds σ a1 b Q := by
  obtain ⟨pl1, pl2, pl3⟩ := hR.pl
  unfold V_P_holds
  refine isCell_ok r1 rb pl1 pl2 pl3 (fun hc => ⟨fun w => absurd w n10, fun _ => ?_⟩) (fun hc => ⟨fun _ => h0 (by omega), fun w => absurd z00 w⟩)
  have e := hR.2.2.1.2.2.1 (a1 * 7 + b) (by omega) (by omega)
  rw [show (2 : Int) + (a1 * 7 + b) = 2 + 7 * a1 + b by omega] at e
  have e' : σ 2 (a1 * 7 + b) = τ 1 (2 + 7 * a1 + b) := e
  have hh := hR.2.1.2.2.1.1 (7 * a1 + b) (by omega) (by omega)
  rw [show (2 : Int) + (7 * a1 + b) = 2 + 7 * a1 + b by omega] at hh
  rw [i32_id (x := a1 * 7 + b) (by omega) (by omega), e', i32_id (x := τ 1 (2 + 7 * a1 + b)) (by omega) (by omega)]
  exact ⟨⟨by omega, by omega⟩, fun z => h0 (by omega), fun z => h1 (by omega)⟩
theorem Mheld_ok {τ : St} {a1 b : Int} {Q : Int → St → Prop} (h1 : 0 ≤ a1) (h2 : a1 < 12) (h3 : 0 ≤ b) (h4 : b < 7) (h : Q (τ 1 (2 + 7 * a1 + b)) τ) : V_M_held τ a1 b Q := by
  unfold V_M_held
  rw [i32_id (x := 2 + 7 * a1 + b) (by omega) (by omega)]
  exact ⟨⟨by omega, by omega⟩, h⟩
theorem op_lay {σ τ : St} (hR : Rel σ τ) {a1 a2 a3 : Int} (r1 : i32 a1 = a1) (r2 : i32 a2 = a2) (r3 : i32 a3 = a3) : V_P_lay σ a1 a2 a3 (fun r σ' => V_M_lay τ a1 a2 a3 (fun r' τ' => i32 r = i32 r' ∧ Rel σ' τ')) := by
  obtain ⟨pl1, pl2, pl3⟩ := hR.pl
  have p1 := hR.2.1
  have p2 := hR.2.2.1
  have cm1 : i64 (-1) = -1 := i64_id (by decide) (by decide)
  have c5 : i64 5 = 5 := i64_id (by decide) (by decide)
  have bad : ¬ (0 ≤ a1 ∧ a1 < 12 ∧ 0 ≤ a2 ∧ a2 < τ 1 0 - 1 ∧ -1 ≤ a3 ∧ a3 ≤ 5) → V_P_fail σ 1 (fun r σ' => V_M_lay τ a1 a2 a3 (fun r' τ' => i32 r = i32 r' ∧ Rel σ' τ')) := by
    intro hc
    refine both_fail (e := -1000000001) hR (by decide) (by decide) (by decide) (VM := fun τ Q => V_M_lay τ a1 a2 a3 Q) (fun Q hQ => ?_)
    unfold V_M_lay
    refine isPlaceOf_ok r1 r2 rfl pl2 pl3 (fun z => ⟨fun w => absurd w n10, fun _ => ?_⟩) (fun _ => ⟨fun _ => hQ, fun w => absurd z00 w⟩)
    rw [r3]
    exact in_ok (i64_of32 r3) cm1 c5 (fun y => absurd (by omega) hc) (fun _ => ⟨fun w => absurd z00 w, fun _ => hQ⟩)
  unfold V_P_lay
  rw [r3]
  refine isCell_ok r1 r2 pl1 pl2 pl3 (fun h1 => ⟨fun w => absurd w n10, fun _ => ⟨fun z => bad (by omega), fun z => ⟨fun y => ?_, fun y => bad (by omega)⟩⟩⟩) (fun h1 => ⟨fun _ => bad (by omega), fun w => absurd z00 w⟩)
  have hl : ∀ b, 0 ≤ b → b < 7 → -1 ≤ τ 1 (2 + 7 * a1 + b) ∧ τ 1 (2 + 7 * a1 + b) ≤ 5 := fun b x w => by
    have := p1.2.2.1.1 (7 * a1 + b) (by omega) (by omega)
    rw [show (2 : Int) + (7 * a1 + b) = 2 + 7 * a1 + b by omega] at this
    exact this
  -- the reference's way, as far as the neighbours
  have mgo : ∀ Q : Int → St → Prop, (∀ y7 y11 : Int, (y7 = 0 ∨ y7 = 1) → (y11 = 0 ∨ y11 = 1) → (y7 = 1 ↔ 0 < a2 ∧ 0 ≤ τ 1 (2 + 7 * a1 + (a2 - 1))) → (y11 = 1 ↔ a2 < τ 1 0 - 2 ∧ 0 ≤ τ 1 (2 + 7 * a1 + (a2 + 1))) → J_M_lay_78 a1 a2 a3 Q y7 y11 τ) → V_M_lay τ a1 a2 a3 Q := by
    intro Q hQ
    have j50 : ∀ y7 : Int, (y7 = 0 ∨ y7 = 1) → (y7 = 1 ↔ 0 < a2 ∧ 0 ≤ τ 1 (2 + 7 * a1 + (a2 - 1))) → J_M_lay_50 a1 a2 a3 Q y7 τ := by
      intro y7 b1 b2
      unfold J_M_lay_50
      dsimp only [V_M_gaps]
      rw [r2, show τ 1 0 - 1 - 1 = τ 1 0 - 2 by omega, i32_id (x := τ 1 0 - 2) (by omega) (by omega)]
      refine ⟨fun hc => ?_, fun hc => Mheld_ok h1.1 h1.2.1 (by omega) (by omega) ?_⟩
      · unfold J_M_lay_77
        exact hQ y7 0 b1 (Or.inl rfl) b2 ⟨fun w => absurd w (by decide), fun w => by omega⟩
      · have hb := hl (a2 + 1) (by omega) (by omega)
        rw [i32_id (x := τ 1 (2 + 7 * a1 + (a2 + 1))) (by omega) (by omega)]
        refine ⟨fun hd => ?_, fun hd => hQ y7 1 b1 (Or.inr rfl) b2 ⟨fun _ => ⟨hc, hd⟩, fun _ => rfl⟩⟩
        unfold J_M_lay_77
        exact hQ y7 0 b1 (Or.inl rfl) b2 ⟨fun w => absurd w (by decide), fun w => by omega⟩
    unfold V_M_lay
    refine isPlaceOf_ok r1 r2 rfl pl2 pl3 (fun _ => ⟨fun w => absurd w n10, fun _ => ?_⟩) (fun w => absurd h1 w)
    rw [r2, r3]
    refine in_ok (i64_of32 r3) cm1 c5 (fun _ => ⟨fun _ => ⟨fun hc => ?_, fun hc => Mheld_ok h1.1 h1.2.1 (by omega) (by omega) ?_⟩, fun w => absurd w n10⟩) (fun w => absurd ⟨z, by omega⟩ w)
    · unfold J_M_lay_49
      exact j50 0 (Or.inl rfl) ⟨fun w => absurd w (by decide), fun w => by omega⟩
    · have hb := hl (a2 - 1) (by omega) (by omega)
      rw [i32_id (x := τ 1 (2 + 7 * a1 + (a2 - 1))) (by omega) (by omega)]
      refine ⟨fun hd => ?_, fun hd => j50 1 (Or.inr rfl) ⟨fun _ => ⟨hc, hd⟩, fun _ => rfl⟩⟩
      unfold J_M_lay_49
      exact j50 0 (Or.inl rfl) ⟨fun w => absurd w (by decide), fun w => by omega⟩
  -- laid
  have eo : ∀ i, i ≠ 2 + 7 * a1 + a2 → lyN (τ 1) (2 + 7 * a1 + a2) a3 i = τ 1 i := fun i h => by unfold lyN; rw [if_neg h]
  have ep : lyN (τ 1) (2 + 7 * a1 + a2) a3 (2 + 7 * a1 + a2) = a3 := by unfold lyN; rw [if_pos rfl]
  have done : (a3 = -1 ∨ (¬ (0 < a2 ∧ 0 ≤ τ 1 (2 + 7 * a1 + (a2 - 1))) ∧ ¬ (a2 < τ 1 0 - 2 ∧ 0 ≤ τ 1 (2 + 7 * a1 + (a2 + 1))))) → J_P_lay_59 a1 a2 a3 (fun r σ' => V_M_lay τ a1 a2 a3 (fun r' τ' => i32 r = i32 r' ∧ Rel σ' τ')) σ := by
    intro hn
    unfold J_P_lay_59
    rw [i32_id (x := a1 * 7 + a2) (by omega) (by omega)]
    refine ⟨⟨by omega, by omega⟩, fun x hx => ⟨⟨by omega, by omega⟩, fun s h9 => ?_⟩⟩
    have hz := hl a2 (by omega) (by omega)
    have hb : planB (lyN (τ 1) (2 + 7 * a1 + a2) a3) := by
      refine p1.b.cells (by rw [eo 0 (by omega)]; exact pl2) (by rw [eo 0 (by omega)]; exact pl3) ⟨fun k a b => ?_, fun r g a b c d hge => ?_⟩ (fun r g a b c d => ?_) (fun i h => eo i (by omega))
      · by_cases ck : 2 + k = 2 + 7 * a1 + a2
        · rw [ck, ep]; omega
        · rw [eo _ ck]; exact p1.2.2.1.1 k a b
      · by_cases c1 : 2 + 7 * r + g = 2 + 7 * a1 + a2
        · rw [c1, ep] at hge
          have hr : r = a1 := by omega
          have hg : g = a2 := by omega
          subst hr hg
          rw [eo _ (by omega)]
          rcases hn with w | ⟨w1, w2⟩
          · omega
          · by_cases c2 : g < τ 1 0 - 2
            · have : ¬ 0 ≤ τ 1 (2 + 7 * r + (g + 1)) := fun z => w2 ⟨c2, z⟩
              omega
            · rw [p1.2.2.2.1 r (g + 1) a b (by omega) (by omega)]
              decide
        · rw [eo _ c1] at hge
          by_cases c2 : 2 + 7 * r + (g + 1) = 2 + 7 * a1 + a2
          · rw [c2, ep]
            have hr : r = a1 := by omega
            have hg : g = a2 - 1 := by omega
            subst hr
            rcases hn with w | ⟨w1, w2⟩
            · omega
            · rw [hg] at hge
              exact absurd ⟨by omega, hge⟩ w1
          · rw [eo _ c2]
            exact p1.2.2.1.2 r g a b c d hge
      · rw [eo 0 (by omega)] at c
        rw [eo _ (by omega)]
        exact p1.2.2.2.1 r g a b c d
    have frs : ∀ k, k ≠ 2 → s k = σ k := fun k h => by rw [h9, ss_row _ h]
    have e2 : σ 2 (a1 * 7 + a2) = τ 1 (2 + 7 * a1 + a2) := by
      have := p2.2.2.1 (a1 * 7 + a2) (by omega) (by omega)
      rw [show (2 : Int) + (a1 * 7 + a2) = 2 + 7 * a1 + a2 by omega] at this
      exact this
    refine both_anew (t := sf τ 1 (lyN (τ 1) (2 + 7 * a1 + a2) a3)) (r' := τ 1 (2 + 7 * a1 + a2)) (N := lyN (τ 1) (2 + 7 * a1 + a2) a3) (σ := σ) (τ := τ) ?_ hb ?_ (sf_at _ _ _) (by rw [hx, e2]) (VM := fun Q => V_M_lay τ a1 a2 a3 Q) (fun Q hQ => ?_)
    · exact (hR.1.fc (fun k hk => frs k (by omega)) (by rw [frs 0 (by decide)])).fm (sf_row _ (by decide) _) (sf_row _ (by decide) _) (sf_row _ (by decide) _) (sf_row _ (by decide) _) (sf_row _ (by decide) _) (sf_row _ (by decide) _) (by rw [sf_row _ (by decide)]) (by rw [sf_row _ (by decide)])
    · refine p2.cells ?_ ?_ (fun k a b => ?_) (fun i h => eo i (by omega)) (fun k a b => frs k (by omega))
      · rw [frs 1 (by decide), eo 0 (by omega)]; exact pl1
      · rw [frs 1 (by decide), eo 1 (by omega)]; exact p2.2.1
      · rw [h9]
        by_cases ck : k = a1 * 7 + a2
        · rw [ck, show (2 : Int) + (a1 * 7 + a2) = 2 + 7 * a1 + a2 by omega, ep]
          exact ss_at _ _ _ _
        · rw [eo _ (by omega), ss_ne _ _ ck]
          exact p2.2.2.1 k a b
    · refine mgo Q (fun y7 y11 b1 b2 b3 b4 => ?_)
      have j101 : J_M_lay_101 a1 a2 a3 Q τ := by
        unfold J_M_lay_101
        refine Mheld_ok h1.1 h1.2.1 (by omega) (by omega) ?_
        rw [i32_id (x := 2 + 7 * a1 + a2) (by omega) (by omega)]
        refine ⟨⟨by omega, by omega⟩, fun t ht => ?_⟩
        have : t = sf τ 1 (lyN (τ 1) (2 + 7 * a1 + a2) a3) := by
          rw [ht]
          funext k j
          unfold ss sf lyN
          by_cases hk : k = 1
          · subst hk; simp only [if_true]
          · simp only [hk, if_false]
        rw [this]
        exact hQ
      unfold J_M_lay_78
      rw [r3, i32_id (x := y7) (by omega) (by omega), i32_id (x := y11) (by omega) (by omega)]
      refine ⟨fun _ => j101, fun hc => ⟨fun hd => ?_, fun hd => ⟨fun _ => j101, fun he => ?_⟩⟩⟩
      · rcases hn with w | ⟨w1, w2⟩
        · omega
        · exact absurd (b3.mp (by omega)) w1
      · rcases hn with w | ⟨w1, w2⟩
        · omega
        · exact absurd (b4.mp (by omega)) w2
  have bad3 : 0 ≤ a3 → (0 < a2 ∧ 0 ≤ τ 1 (2 + 7 * a1 + (a2 - 1))) ∨ (a2 < τ 1 0 - 2 ∧ 0 ≤ τ 1 (2 + 7 * a1 + (a2 + 1))) → V_P_fail σ 3 (fun r σ' => V_M_lay τ a1 a2 a3 (fun r' τ' => i32 r = i32 r' ∧ Rel σ' τ')) := by
    intro h0 hn
    refine both_fail (e := -1000000003) hR (by decide) (by decide) (by decide) (VM := fun τ Q => V_M_lay τ a1 a2 a3 Q) (fun Q hQ => mgo Q (fun y7 y11 b1 b2 b3 b4 => ?_))
    unfold J_M_lay_78
    rw [r3, i32_id (x := y7) (by omega) (by omega), i32_id (x := y11) (by omega) (by omega)]
    refine ⟨fun w => by omega, fun hc => ⟨fun hd => hQ, fun hd => ⟨fun he => ?_, fun he => hQ⟩⟩⟩
    rcases hn with w | w
    · have := b3.mpr w; omega
    · have := b4.mpr w; omega
  refine ⟨fun hc => done (Or.inl hc), fun hc => ?_⟩
  refine holds_ok hR r1 (i32_id (by omega) (by omega)) (fun hd => ⟨fun _ => bad3 (by omega) (Or.inl ⟨by omega, hd.2.2.2.2⟩), fun w => absurd w n10⟩) (fun hd => ⟨fun w => absurd z00 w, fun _ => ?_⟩)
  refine holds_ok hR r1 (i32_id (by omega) (by omega)) (fun he => ⟨fun w => absurd w n10, fun _ => bad3 (by omega) (Or.inr ⟨by omega, he.2.2.2.2⟩)⟩) (fun he => ⟨fun _ => done (Or.inr ⟨fun w => hd ⟨h1.1, h1.2.1, by omega, by omega, w.2⟩, fun w => he ⟨h1.1, h1.2.1, by omega, by omega, w.2⟩⟩), fun w => absurd z00 w⟩)

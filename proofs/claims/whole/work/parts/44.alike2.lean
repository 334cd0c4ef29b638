-- ALIKE: the reference
theorem Mcopy2_ok {a b : Nat} {τ : St} {Q : St → Prop} (hab : a ≠ b) (h : ∀ τ', (∀ i, 0 ≤ i → i < 204 → τ' b i = τ a i) → (∀ i, ¬ (0 ≤ i ∧ i < 204) → τ' b i = τ b i) → (∀ k, k ≠ b → τ' k = τ k) → Q τ') : V_M_copy a b τ Q := by
  unfold V_M_copy
  refine wl1 (fun i u => 0 ≤ i ∧ i ≤ 204 ∧ (∀ j, 0 ≤ j → j < i → u b j = τ a j) ∧ (∀ j, ¬ (0 ≤ j ∧ j < 204) → u b j = τ b j) ∧ ∀ k, k ≠ b → u k = τ k) (fun i _ => (204 - i).toNat) ⟨by omega, by omega, fun j x y => by omega, fun _ _ => rfl, fun _ _ => rfl⟩ ?_
  intro bk i u hI hb
  obtain ⟨i1, i2, i3, i5, i4⟩ := hI
  rw [i32_id (x := i) (by omega) (by omega)]
  refine ⟨fun hc => h u (fun j x y => i3 j x (by omega)) i5 i4, fun hc => ⟨⟨i1, hc⟩, ⟨i1, hc⟩, fun v hv => hb _ _ ⟨by omega, by omega, fun j x y => ?_, fun j x => ?_, fun k hk => by rw [hv, ss_row _ hk]; exact i4 k hk⟩ (by omega)⟩⟩
  · rw [hv, ss_self]
    show (if j = i then u a i else u b j) = _
    by_cases c : j = i
    · rw [if_pos c, i4 a hab, c]
    · rw [if_neg c]
      exact i3 j x (by omega)
  · rw [hv, ss_ne _ _ (by omega)]
    exact i5 j x
theorem MworkG {τ : St} {Q : St → Prop} (hp : planOk (τ 1)) (p4 : GM τ (stS (τ 1))) (k : ∀ τ', MW τ' (wkA (τ 1)) → frm mwK mwJ τ τ' → Q τ') : V_M_theWork τ Q := by
  have hl := (stS_ok hp).2.1
  have q7 := hp.2.2.2.2.2.2.1
  have q8 := hp.2.2.2.2.2.2.2.1
  have q9 := hp.2.2.2.2.2.2.2.2
  refine MtheWork_ok (GM_st hp p4) q7 (by omega) (fun i a b => ?_) (fun τ' m f => k τ' ?_ f)
  · have := q9 i.toNat (by omega)
    rw [show ((i.toNat : Nat) : Int) = i by omega] at this
    rw [p4.1]
    exact ⟨this.1, this.2.1⟩
  · have e : awQ (τ 1) (τ 6) (τ 7) (fun i => τ 1 (156 + i)) (τ 1 1).toNat = wkA (τ 1) := awQ_congr _ (fun i hi => by
      have := q9 i (by omega)
      exact GM_at p4 this.1 this.2.1)
    rw [e] at m
    exact m
theorem op_alike {σ τ : St} (hRel : Rel σ τ) : V_P_alike σ (fun r σ' => V_M_alike τ (fun r' τ' => i32 r = i32 r' ∧ Rel σ' τ')) := by
  obtain ⟨⟨a1, a2, a3, a4⟩, p1, p2, p3, p4, p5, p6, p7, p8⟩ := hRel
  have hRel : Rel σ τ := ⟨⟨a1, a2, a3, a4⟩, p1, p2, p3, p4, p5, p6, p7, p8⟩
  unfold V_P_alike
  rcases a4 with ⟨q1, q2⟩ | ⟨q1, q2, q3, q4, q5⟩
  · rw [q1, z00]
    refine ⟨fun w => absurd rfl w, fun _ => ?_⟩
    refine both_fail (e := -1000000002) hRel (by decide) (by decide) (by decide) (VM := fun τ Q => V_M_alike τ Q) (fun Q hQ => ?_)
    unfold V_M_alike
    rw [q2, z00]
    exact ⟨fun w => absurd rfl w, fun _ => hQ⟩
  · rw [q1]
    refine ⟨fun _ => ?_, fun w => absurd w n10⟩
    obtain ⟨A, hA⟩ : ∃ A, A = hR (wkA (τ 1)).2.2 := ⟨_, rfl⟩
    obtain ⟨B, hB⟩ : ∃ B, B = hR (wkA (τ 2)).2.2 := ⟨_, rfl⟩
    have hHA : HP σ 38 A := by rw [hA]; exact p5.2.2.2.2
    have hHB : HP σ 13 B := by rw [hB]; exact q5
    obtain ⟨gA, lA⟩ := wkA_g p1
    obtain ⟨gB, lB⟩ := wkA_g q3
    have wA : hWf A := by rw [hA]; exact hR_wf gA.2.1
    have wB : hWf B := by rw [hB]; exact hR_wf gB.2.1
    have nA : A.length ≤ 768 := by rw [hA]; have := hR_len gA.2.1; omega
    have nB : B.length ≤ 768 := by rw [hB]; have := hR_len gB.2.1; omega
    have iff := hEq_iff wA wB hHA.2.2.2 hHB.2.2.2
    -- the reference
    have ref : ∀ r : Int, (r = 0 ∨ r = 1) → (r = 1 ↔ hEq A B) → V_M_alike τ (fun r' τ' => i32 r = i32 r' ∧ Rel σ τ') := by
      intro r hr01 hr
      unfold V_M_alike
      rw [q2]
      refine ⟨fun _ => ?_, fun w => absurd w n10⟩
      refine Mcopy2_ok (by decide) (fun t1 c1 d1 f1 => ?_)
      refine Mcopy2_ok (by decide) (fun t2 c2 d2 f2 => ?_)
      have t12 : t1 2 = τ 2 := f1 2 (by decide)
      rw [t12] at c2
      obtain ⟨n1, n2, n3, n4⟩ := planOk_congr (N' := t2 1) q3 c2
      refine Mlists_ok n1.2.2.1 n1.1 n1.2.1 (fun t3 g3 f3 => ?_)
      have t31 : t3 1 = t2 1 := f3.1 1 (by decide) (by decide)
      have g3' : GM t3 (stS (t3 1)) := by rw [t31]; exact g3
      refine MworkG (by rw [t31]; exact n1) g3' (fun t4 m4 f4 => ?_)
      rw [t31, n3] at m4
      refine Mlayers_ok m4 gB.2.1 (by omega) (fun t5 ml5 l5 f5 => ?_)
      rw [← hB] at ml5 l5 ⊢
      intro x2 hx2
      have hx2' : x2 = B.length := by rw [hx2, ml5.1, List.length_reverse]
      -- nothing shown
      refine wl1 (fun i u => 0 ≤ i ∧ i ≤ 12800 ∧ (∀ j, 0 ≤ j → j < i → u 27 j = 0) ∧ ∀ k, k ≠ 27 → u k = t5 k) (fun i _ => (12800 - i).toNat) ⟨by omega, by omega, fun j a b => by omega, fun _ _ => rfl⟩ ?_
      intro bk i u hI hb
      obtain ⟨i1, i2, i3, i4⟩ := hI
      rw [i32_id (x := i) (by omega) (by omega)]
      refine ⟨fun hc => ?_, fun hc => ⟨⟨i1, hc⟩, fun v hv => hb _ _ ⟨by omega, by omega, fun j a b => ?_, fun k hk => by rw [hv, ss_row _ hk]; exact i4 k hk⟩ (by omega)⟩⟩
      rotate_left
      · rw [hv, ss_self]
        show (if j = i then 0 else u 27 j) = 0
        by_cases c : j = i
        · rw [if_pos c]
        · rw [if_neg c]; exact i3 j a (by omega)
      have i3' : ∀ j, 0 ≤ j → j < 12800 → u 27 j = 0 := fun j a b => i3 j a (by omega)
      -- the kept one's is shown
      have Brl : B.reverse.length = B.length := List.length_reverse
      have e21 : t5 0 21 = B.length := by rw [ml5.1, Brl]
      refine wl1 (fun i v => ∃ k : Nat, k ≤ B.length ∧ i = k ∧ (∀ q, q ≠ 27 → v q = t5 q) ∧ ∀ j, 0 ≤ j → j < 12800 → v 27 j = sg B (j / 16) (j % 16) ∨ (v 27 j = 0 ∧ ∀ (n : Nat) (x : HI), n < k → B.reverse[n]? = some x → ¬ 16 * x.2.2 + x.1 = j)) (fun i _ => (B.length - i).toNat) ⟨0, by omega, rfl, i4, fun j a b => Or.inr ⟨i3' j a b, fun n x h => by omega⟩⟩ ?_
      intro bk2 i' v hI2 hb2
      obtain ⟨k, hk, rfl, v4, v5⟩ := hI2
      rw [v4 0 (by decide), v4 18 (by decide), v4 19 (by decide), v4 20 (by decide), e21, i32_id (x := (k : Int)) (by omega) (by omega), i32_id (x := (B.length : Int)) (by omega) (by omega)]
      refine ⟨fun hd => ?_, fun hd => ⟨⟨by omega, by omega⟩, ⟨by omega, by omega⟩, ⟨by omega, by omega⟩, ?_⟩⟩
      rotate_left
      · obtain ⟨x, hx⟩ : ∃ x, B.reverse[k]? = some x := ⟨B.reverse[k]'(by omega), List.getElem?_eq_getElem (by omega)⟩
        have hm : x ∈ B := List.mem_reverse.mp (List.mem_of_getElem? hx)
        obtain ⟨y1, y2, y3, y4, y5⟩ := hp_mem wB hm
        have y6 := hHB.2.2.2 x.1
        have e1 := ml5.2 k x hx
        rw [e1.1, e1.2, l5 k x hx, i32_id (x := 16 * x.2.2 + x.1) (by omega) (by omega)]
        refine ⟨⟨by omega, by omega⟩, fun w hw => hb2 _ _ ⟨k + 1, by omega, by omega, fun q hq => by rw [hw, ss_row _ hq]; exact v4 q hq, fun j a b => ?_⟩ (by omega)⟩
        rw [hw, ss_self]
        show (if j = 16 * x.2.2 + x.1 then x.2.1 else v 27 j) = _ ∨ _
        by_cases c : j = 16 * x.2.2 + x.1
        · left
          rw [if_pos c, c, show (16 * x.2.2 + x.1) / 16 = x.2.2 by omega, show (16 * x.2.2 + x.1) % 16 = x.1 by omega]
          exact (sg_mem wB hm).symm
        · rcases v5 j a b with q | ⟨q1, q2⟩
          · left; rw [if_neg c]; exact q
          · right
            refine ⟨by show (if j = 16 * x.2.2 + x.1 then x.2.1 else v 27 j) = 0; rw [if_neg c]; exact q1, fun n y hn hy => ?_⟩
            by_cases cn : n = k
            · rw [cn, hx] at hy
              injection hy with e
              rw [← e]
              exact fun z => c z.symm
            · exact q2 n y (by omega) hy
      have shown : ∀ l p, 0 ≤ l → l < 96 → 0 ≤ p → p < 15 → v 27 (16 * l + p) = sg B l p := by
        intro l p a b c d
        have := v5 (16 * l + p) (by omega) (by omega)
        rw [show (16 * l + p) / 16 = l by omega, show (16 * l + p) % 16 = p by omega] at this
        rcases this with q | ⟨q1, q2⟩
        · exact q
        · rw [q1]
          by_cases cz : sg B l p = 0
          · exact cz.symm
          · exfalso
            obtain ⟨y, y1, y2, y3, y4⟩ := sg_ex cz
            obtain ⟨n, hn⟩ := List.mem_iff_getElem?.mp (List.mem_reverse.mpr y1)
            have hnl := (List.getElem?_eq_some_iff.mp hn).1
            exact q2 n y (by omega) hn (by rw [y2, y3])
      -- back to what is now
      refine Mcopy2_ok (by decide) (fun t6 c6 d6 f6 => ?_)
      have tt : ∀ q, q ≠ 27 → q ∉ lyK → q ∉ mwK → q ∉ gmK → q ≠ 0 → q ≠ 1 → q ≠ 3 → v q = τ q := by
        intro q x1 x2 x3 x4 x5 x6 x7
        rw [v4 q x1, f5.1 q x5 x2, f4.1 q x5 x3, f3.1 q x5 x4, f2 q x6, f1 q x7]
      have v3 : v 3 = t1 3 := by rw [v4 3 (by decide), f5.1 3 (by decide) (by decide), f4.1 3 (by decide) (by decide), f3.1 3 (by decide) (by decide), f2 3 (by decide)]
      have v1 : v 1 = t2 1 := by rw [v4 1 (by decide), f5.1 1 (by decide) (by decide), f4.1 1 (by decide) (by decide), t31]
      have t61 : t6 1 = τ 1 := by
        funext j
        by_cases c : 0 ≤ j ∧ j < 204
        · rw [c6 j c.1 c.2, v3, c1 j c.1 c.2]
        · rw [d6 j c, v1, d2 j c, f1 1 (by decide)]
      have h6 : planOk (t6 1) := by rw [t61]; exact p1
      refine Mlists_ok h6.2.2.1 h6.1 h6.2.1 (fun t7 g7 f7 => ?_)
      have t71 : t7 1 = τ 1 := by rw [f7.1 1 (by decide) (by decide), t61]
      have g7' : GM t7 (stS (t7 1)) := by rw [t71, ← t61]; exact g7
      refine MworkG (by rw [t71]; exact p1) g7' (fun t8 m8 f8 => ?_)
      rw [t71] at m8
      refine Mlayers_ok m8 gA.2.1 (by omega) (fun t9 ml9 l9 f9 => ?_)
      rw [← hA] at ml9 l9 ⊢
      have Arl : A.reverse.length = A.length := List.length_reverse
      have e921 : t9 0 21 = A.length := by rw [ml9.1, Arl]
      have t927 : ∀ l p, 0 ≤ l → l < 96 → 0 ≤ p → p < 15 → t9 27 (16 * l + p) = sg B l p := fun l p a b c d => by
        rw [f9.1 27 (by decide) (by decide), f8.1 27 (by decide) (by decide), f7.1 27 (by decide) (by decide), f6 27 (by decide)]
        exact shown l p a b c d
      have tj : ∀ j, j ≠ 5 → j ≠ 15 → j ≠ 21 → t9 0 j = τ 0 j := by
        intro j x1 x2 x3
        rw [f9.2 j (by simp [x3]), f8.2 j (by simp [x2]), f7.2 j (by simp [x1]), f6 0 (by decide), v4 0 (by decide), f5.2 j (by simp [x3]), f4.2 j (by simp [x2]), f3.2 j (by simp [x1]), f2 0 (by decide), f1 0 (by decide)]
      have tk : ∀ q, q ≠ 27 → q ∉ lyK → q ∉ mwK → q ∉ gmK → q ≠ 0 → q ≠ 1 → q ≠ 3 → t9 q = τ q := by
        intro q x1 x2 x3 x4 x5 x6 x7
        rw [f9.1 q x5 x2, f8.1 q x5 x3, f7.1 q x5 x4, f6 q x6]
        exact tt q x1 x2 x3 x4 x5 x6 x7
      have t91 : t9 1 = τ 1 := by rw [f9.1 1 (by decide) (by decide), f8.1 1 (by decide) (by decide), t71]
      have R9 : Rel σ t9 := by
        refine ⟨RelA.fm (τ := τ) hRel.1 (tk 2 (by decide) (by decide) (by decide) (by decide) (by decide) (by decide) (by decide)) (tk 4 (by decide) (by decide) (by decide) (by decide) (by decide) (by decide) (by decide)) (tk 10 (by decide) (by decide) (by decide) (by decide) (by decide) (by decide) (by decide)) (tk 24 (by decide) (by decide) (by decide) (by decide) (by decide) (by decide) (by decide)) (tk 25 (by decide) (by decide) (by decide) (by decide) (by decide) (by decide) (by decide)) (tk 26 (by decide) (by decide) (by decide) (by decide) (by decide) (by decide) (by decide)) (tj 3 (by decide) (by decide) (by decide)) (tj 12 (by decide) (by decide) (by decide)), ?_⟩
        unfold RelP
        rw [t91]
        refine ⟨p1, p2, p3, ?_, p5, p6, p7, p8⟩
        rw [t71] at g7'
        unfold GM
        rw [f9.2 5 (by decide), f8.2 5 (by decide), f9.1 5 (by decide) (by decide), f8.1 5 (by decide) (by decide), f9.1 6 (by decide) (by decide), f8.1 6 (by decide) (by decide), f9.1 7 (by decide) (by decide), f8.1 7 (by decide) (by decide), f9.1 8 (by decide) (by decide), f8.1 8 (by decide) (by decide), f9.1 9 (by decide) (by decide), f8.1 9 (by decide) (by decide)]
        exact g7'
      have j161 : ∀ y : Int, (y = 0 ∨ y = 1) → (y = 1 ↔ hL A 15 = hL B 15 ∧ A.length = B.length) → J_M_alike_161 (fun r' τ' => i32 r = i32 r' ∧ Rel σ τ') y t9 := by
        intro y hy01 hy
        unfold J_M_alike_161
        -- the end
        have fin : ∀ z : Int, (z = 0 ∨ z = 1) → (z = 1 ↔ (hL A 15 = hL B 15 ∧ A.length = B.length) ∧ ∀ x ∈ A, sg B x.2.2 x.1 = x.2.1) → ((i32 z = 0 → i32 r = i32 0 ∧ Rel σ t9) ∧ (¬ i32 z = 0 → i32 r = i32 1 ∧ Rel σ t9)) := by
          intro z hz01 hz
          rw [i32_id (x := z) (by omega) (by omega)]
          have hzr : z = 1 ↔ r = 1 := by
            rw [hz, hr, iff]
            constructor
            · intro ⟨⟨x, y⟩, w⟩; exact ⟨x, y, w⟩
            · intro ⟨x, y, w⟩; exact ⟨⟨x, y⟩, w⟩
          refine ⟨fun h => ⟨?_, R9⟩, fun h => ⟨?_, R9⟩⟩
          · have : r = 0 := by
              rcases hr01 with q | q
              · exact q
              · have := hzr.mpr q; omega
            rw [this]
          · have : r = 1 := hzr.mp (by omega)
            rw [this]
        refine wl2 (fun i z u => u = t9 ∧ ∃ n : Nat, n ≤ A.length ∧ i = n ∧ (z = 0 ∨ z = 1) ∧ (z = 1 ↔ (hL A 15 = hL B 15 ∧ A.length = B.length) ∧ ∀ (j : Nat) (x : HI), j < n → A.reverse[j]? = some x → sg B x.2.2 x.1 = x.2.1)) (fun i _ _ => (A.length - i).toNat) ⟨rfl, 0, by omega, rfl, hy01, ⟨fun h => ⟨hy.mp h, fun j x h => by omega⟩, fun h => hy.mpr h.1⟩⟩ ?_
        intro bk3 i3 z u3 hI3 hb3
        obtain ⟨rfl, n, hn, rfl, z01, hz⟩ := hI3
        rw [e921, i32_id (x := (n : Int)) (by omega) (by omega), i32_id (x := (A.length : Int)) (by omega) (by omega)]
        have dead : z = 0 → (∃ x ∈ A, ¬ sg B x.2.2 x.1 = x.2.1) ∨ ¬ (hL A 15 = hL B 15 ∧ A.length = B.length) := by
          intro h0
          by_cases c : hL A 15 = hL B 15 ∧ A.length = B.length
          · left
            by_cases c2 : ∃ x ∈ A, ¬ sg B x.2.2 x.1 = x.2.1
            · exact c2
            · exfalso
              have := hz.mpr ⟨c, fun j x _ hx => by
                by_cases c3 : sg B x.2.2 x.1 = x.2.1
                · exact c3
                · exact absurd ⟨x, List.mem_reverse.mp (List.mem_of_getElem? hx), c3⟩ c2⟩
              omega
          · exact Or.inr c
        refine ⟨fun hc => fin z z01 ?_, fun hc => ⟨fun h0 => fin z z01 ?_, fun h0 => ?_⟩⟩
        · rw [hz]
          constructor
          · intro ⟨x, y⟩
            refine ⟨x, fun w hw => ?_⟩
            obtain ⟨j, hj⟩ := List.mem_iff_getElem?.mp (List.mem_reverse.mpr hw)
            have hjl := (List.getElem?_eq_some_iff.mp hj).1
            exact y j w (by omega) hj
          · intro ⟨x, y⟩
            exact ⟨x, fun j w _ hw => y w (List.mem_reverse.mp (List.mem_of_getElem? hw))⟩
        · have hz0 : z = 0 := by
            rw [i32_id (x := z) (by omega) (by omega)] at h0
            exact h0
          constructor
          · intro w; omega
          · intro ⟨x, y⟩
            rcases dead hz0 with ⟨w, w1, w2⟩ | w
            · exact absurd (y w w1) w2
            · exact absurd x w
        · clear dead
          have hz1 : z = 1 := by
            rw [i32_id (x := z) (by omega) (by omega)] at h0
            omega
          obtain ⟨x, hx⟩ : ∃ x, A.reverse[n]? = some x := ⟨A.reverse[n]'(by omega), List.getElem?_eq_getElem (by omega)⟩
          have hm : x ∈ A := List.mem_reverse.mp (List.mem_of_getElem? hx)
          obtain ⟨y1, y2, y3, y4, y5⟩ := hp_mem wA hm
          have y6 := hHA.2.2.2 x.1
          have e1 := ml9.2 n x hx
          have s2 := sg_01 wB x.2.2 x.1
          rw [e1.1, e1.2, l9 n x hx, i32_id (x := 16 * x.2.2 + x.1) (by omega) (by omega), t927 x.2.2 x.1 y1 (by omega) y3 y4, i32_id (x := sg B x.2.2 x.1) (by omega) (by omega), i32_id (x := x.2.1) (by omega) (by omega)]
          have hz' := hz.mp hz1
          refine ⟨⟨by omega, by omega⟩, ⟨by omega, by omega⟩, ⟨by omega, by omega⟩, ⟨by omega, by omega⟩, fun h => hb3 _ _ _ ⟨rfl, n + 1, by omega, by omega, Or.inl rfl, ?_⟩ (by omega), fun h => hb3 _ _ _ ⟨rfl, n + 1, by omega, by omega, Or.inr rfl, ?_⟩ (by omega)⟩
          · constructor
            · intro w; exact absurd w (by decide)
            · intro ⟨_, w⟩; exact absurd (w n x (by omega) hx) h
          · refine ⟨fun _ => ⟨hz'.1, fun j w hj hw => ?_⟩, fun _ => rfl⟩
            by_cases cj : j = n
            · rw [cj, hx] at hw
              injection hw with e
              rw [← e]; exact h
            · exact hz'.2 j w (by omega) hw
      have j160 : ¬ (hL A 15 = hL B 15 ∧ A.length = B.length) → J_M_alike_160 (fun r' τ' => i32 r = i32 r' ∧ Rel σ τ') t9 := by
        intro h
        unfold J_M_alike_160
        exact j161 0 (Or.inl rfl) ⟨fun w => absurd w (by decide), fun w => absurd w h⟩
      have bL : ∀ X : List HI, hWf X → (∀ p, hT X p ≤ 96) → i32 (hL X 15) = hL X 15 := by
        intro X hX x96
        rcases hL_at hX with q | ⟨y, y1, y2⟩
        · rw [q]; exact z00
        · obtain ⟨m1, m2, m3, m4, m5⟩ := hp_mem hX y1
          have := x96 y.1
          exact i32_id (by omega) (by omega)
      rw [bL A wA hHA.2.2.2, bL B wB hHB.2.2.2, e921, hx2', i32_id (x := (A.length : Int)) (by omega) (by omega), i32_id (x := (B.length : Int)) (by omega) (by omega)]
      exact ⟨fun h => j160 (fun w => h w.1), fun h => ⟨fun h2 => j160 (fun w => h2 (by omega)), fun h2 => j161 1 (Or.inr rfl) ⟨fun _ => ⟨h, by omega⟩, fun _ => rfl⟩⟩⟩
    refine isAs_ok hHA hHB wA wB (fun h => ⟨fun w => absurd w n10, fun _ => ref 1 (Or.inr rfl) ⟨fun _ => h, fun _ => rfl⟩⟩) (fun h => ⟨fun _ => ref 0 (Or.inl rfl) ⟨fun w => absurd w (by decide), fun w => absurd w h⟩, fun w => absurd z00 w⟩)

-- THINK: the first n stitches
theorem alA_succ (N : Int → Int) (n : Nat) : alA N (n + 1) = awS N (alA N n) (kS (stS N) n) (gS (stS N) n) n := rfl
def thF (σ σ' : St) : Prop := (∀ k, k ≠ 0 → (k < 41 ∨ 52 < k) → σ' k = σ k) ∧ ∀ j, j ≠ 8 → σ' 0 j = σ 0 j
theorem thF.tr {a b c : St} (h1 : thF a b) (h2 : thF b c) : thF a c := ⟨fun k x y => (h2.1 k x y).trans (h1.1 k x y), fun j x => (h2.2 j x).trans (h1.2 j x)⟩
theorem thF.rf {a : St} : thF a a := ⟨fun _ _ _ => rfl, fun _ _ => rfl⟩
theorem thF.c {σ σ' : St} (h : cfr 41 52 σ σ') : thF σ σ' := ⟨fun k _ y => h k (by omega), fun j _ => by rw [h 0 (by omega)]⟩
theorem thF.s {σ : St} {v : Int} : thF σ (ss σ 0 8 v) := ⟨fun k x _ => ss_row _ x _ _, fun j x => ss_ne _ _ x _⟩
/-- what is thought of doesn't matter -/
theorem Rel.th {σ σ' τ : St} (h : Rel σ τ) (f : thF σ σ') (ht : thR σ' (τ 1)) : Rel σ' τ := by
  obtain ⟨hA, p1, p2, p3, p4, p5, p6, p7, p8⟩ := h
  refine ⟨hA.fc (fun k h => f.1 k (by omega) (by omega)) (f.2 3 (by decide)), p1, p2.fr (fun k a b => f.1 k (by omega) (by omega)), p3.fe (fun k a b => f.1 k (by omega) (by omega)), p4, p5.fe (fun k a b => f.1 k (by omega) (by omega)), by rw [f.2 9 (by decide)]; exact p6, ht, ?_⟩
  unfold wyR
  rw [f.1 23 (by decide) (by omega)]
  rcases p8 with q | ⟨q1, q2⟩
  · exact Or.inl q
  · exact Or.inr ⟨q1, q2.fe (fun k a b => f.1 k (by omega) (by omega))⟩
theorem think_ok {σ τ : St} {n : Int} {Q : St → Prop} (hR : Rel σ τ) (h0 : 0 ≤ n) (hn : n ≤ (stS (τ 1)).length) (k : ∀ σ', Rel σ' τ → CW σ' 41 (alA (τ 1) n.toNat) → thF σ σ' → Q σ') : V_P_thinkStitches σ n Q := by
  have p1 := hR.2.1
  have p2 := hR.2.2.1
  have p3 := hR.2.2.2.1
  have hl := (stS_ok p1).2.1
  have rn : i32 n = n := i32_id (by omega) (by omega)
  have j27 : ∀ (u : St) (m : Nat), (m : Int) ≤ n → u 0 8 = m → CW u 41 (alA (τ 1) m) → thF σ u → J_P_thinkStitches_27 n Q u := by
    intro u m hm e8 hC hf
    unfold J_P_thinkStitches_27
    intro x hx
    rw [hx, e8]
    refine wl1 (fun i v => ∃ j : Nat, (j : Int) ≤ n ∧ i = j ∧ CW v 41 (alA (τ 1) j) ∧ thF σ v) (fun i _ => (n - i).toNat) ⟨m, hm, rfl, hC, hf⟩ ?_
    intro bk i v hI hb
    obtain ⟨j, hj, rfl, i3, i4⟩ := hI
    rw [rn, i32_id (x := (j : Int)) (by omega) (by omega)]
    refine ⟨fun hc w hw => ?_, fun hc => ⟨⟨by omega, by omega⟩, ⟨by omega, by omega⟩, ?_⟩⟩
    · have hjn : n.toNat = j := by omega
      have hCw : CW w 41 (alA (τ 1) j) := i3.fe (fun q a b => by rw [hw, ss_row _ (by omega)])
      have hfw : thF σ w := i4.tr (by rw [hw]; exact thF.s)
      refine k w (hR.th hfw (Or.inr ?_)) (by rw [hjn]; exact hCw) hfw
      have : w 0 8 = n := by rw [hw, ss_at]
      rw [this, hjn]
      exact ⟨h0, hn, hCw⟩
    · obtain ⟨g1, g2⟩ := GC_at p3 (s := (j : Int)) (by omega) (by omega)
      rw [i4.1 19 (by decide) (by omega), i4.1 18 (by decide) (by omega), g1, g2]
      refine make_st (wk := fun i : Nat => (i : Int)) (by decide) p1 (p2.fr (fun q a b => i4.1 q (by omega) (by omega))) (fun i hi => ⟨by omega, by omega⟩) (by omega) (al_ord p1 (by omega)) i3 (by omega) (by omega) (fun q hq ha => ?_) (fun w m f => ?_)
      · exact al_ord p1 (n := j + 1) (by omega) q j hq (by omega) ha
      · refine hb _ _ ⟨j + 1, by omega, by omega, ?_, i4.tr (thF.c f)⟩ (by omega)
        exact m
  have j15 : J_P_thinkStitches_15 n Q σ := by
    unfold J_P_thinkStitches_15
    refine clear_ok (fun s c f t ht => ?_)
    refine j27 t 0 (by omega) (by rw [ht, ss_at]; rfl) (CW.fe (σ := s) c (fun q a b => by rw [ht, ss_row _ (by omega)])) ((thF.c f).tr (by rw [ht]; exact thF.s))
  unfold V_P_thinkStitches
  rw [rn]
  rcases hR.2.2.2.2.2.2.2.1 with q | ⟨q1, q2, q3⟩
  · rw [q, i32_id (x := -1) (by decide) (by decide)]
    exact ⟨fun _ => j15, fun w => absurd w (by decide)⟩
  · rw [i32_id (x := σ 0 8) (by omega) (by omega)]
    refine ⟨fun _ => j15, fun _ => ⟨fun hc => ?_, fun _ => j15⟩⟩
    exact j27 σ (σ 0 8).toNat (by omega) (by omega) q3 thF.rf
/-- where a thread is -/
theorem MplaceOf_ok {τ : St} {w : AW} {t p : Int} {Q : Int → St → Prop} (hM : MW τ w) (hw : awWf w) (rt : i32 t = t) (hp : 0 ≤ p) (hp2 : p < 16) (e : w.1 p = t) (h : Q p τ) : V_M_placeOf τ t Q := by
  unfold V_M_placeOf
  refine wl1 (fun i u => u = τ ∧ 0 ≤ i ∧ i ≤ p) (fun i _ => (p - i).toNat) ⟨rfl, by omega, by omega⟩ ?_
  intro bk i u hI hb
  obtain ⟨rfl, i1, i2⟩ := hI
  have hr := hw.1 i i1 (by omega)
  rw [i32_id (x := i) (by omega) (by omega), hM.1 i i1 (by omega), rt, i32_id (x := w.1 i) (by omega) (by omega)]
  refine ⟨⟨by omega, by omega⟩, fun hc => ?_, fun hc => hb _ _ ⟨rfl, by omega, ?_⟩ ?_⟩
  · have : i = p := hw.2 i p i1 (by omega) hp hp2 (by rw [hc, e])
    rw [this]
    exact h
  · by_cases c : i = p
    · rw [c] at hc; exact absurd e hc
    · omega
  · by_cases c : i = p
    · rw [c] at hc; exact absurd e hc
    · omega
theorem len_GC {σ τ : St} (hR : Rel σ τ) : σ 16 0 = (stS (τ 1)).length ∧ τ 0 5 = (stS (τ 1)).length ∧ (stS (τ 1)).length ≤ 48 := ⟨hR.2.2.2.1.1, hR.2.2.2.2.1.1, (stS_ok hR.2.1).2.1⟩
theorem op_place {σ τ : St} (hR : Rel σ τ) {a1 a2 : Int} (r1 : i32 a1 = a1) (r2 : i32 a2 = a2) : V_P_place σ a1 a2 (fun r σ' => V_M_place τ a1 a2 (fun r' τ' => i32 r = i32 r' ∧ Rel σ' τ')) := by
  obtain ⟨pl1, pl2, pl3⟩ := hR.pl
  obtain ⟨l1, l2, l3⟩ := len_GC hR
  have p1 := hR.2.1
  have bad : ¬ (0 ≤ a1 ∧ a1 < 2 * τ 1 0 ∧ 0 ≤ a2 ∧ a2 ≤ (stS (τ 1)).length) → V_P_fail σ 1 (fun r σ' => V_M_place τ a1 a2 (fun r' τ' => i32 r = i32 r' ∧ Rel σ' τ')) := by
    intro hc
    refine both_fail (e := -1000000001) hR (by decide) (by decide) (by decide) (VM := fun τ Q => V_M_place τ a1 a2 Q) (fun Q hQ => ?_)
    unfold V_M_place
    refine MisThread_ok r1 rfl pl2 pl3 (fun z => ⟨fun w => absurd w n10, fun _ => ?_⟩) (fun _ => ⟨fun _ => hQ, fun w => absurd z00 w⟩)
    rw [r2, l2, i32_id (x := ((stS (τ 1)).length : Int)) (by omega) (by omega)]
    exact in_ok (i64_of32 r2) k64_0 (i64_id (by omega) (by omega)) (fun y => absurd (by omega) hc) (fun _ => ⟨fun w => absurd z00 w, fun _ => hQ⟩)
  unfold V_P_place
  rw [r1, r2]
  refine isThread_ok r1 pl1 pl2 pl3 (fun h1 => ⟨fun w => absurd w n10, fun _ => ⟨fun z => bad (by omega), fun z => ?_⟩⟩) (fun h1 => ⟨fun _ => bad (by omega), fun w => absurd z00 w⟩)
  rw [l1, i32_id (x := ((stS (τ 1)).length : Int)) (by omega) (by omega)]
  refine ⟨fun y => ?_, fun y => bad (by omega)⟩
  refine think_ok hR z y (fun s hs c f => ⟨⟨by omega, by omega⟩, ?_⟩)
  unfold V_M_place
  refine MisThread_ok r1 rfl pl2 pl3 (fun _ => ⟨fun w => absurd w n10, fun _ => ?_⟩) (fun w => absurd h1 w)
  rw [r2, l2, i32_id (x := ((stS (τ 1)).length : Int)) (by omega) (by omega)]
  refine in_ok (i64_of32 r2) k64_0 (i64_id (by omega) (by omega)) (fun _ => ⟨fun _ => ?_, fun w => absurd w n10⟩) (fun w => absurd ⟨z, y⟩ w)
  refine Mfirst' hR z y (fun t m g => ?_)
  obtain ⟨c1, c2, c3⟩ := c.2.1 a1 (by omega) (by omega)
  exact MplaceOf_ok m (alA_g p1 _ (by omega)).1.1 r1 c1 c2 c3 ⟨rfl, hs.fm (mw_sc g)⟩
theorem cr_rng {w : AW} (h : awG w) {n : Nat} {r : CR} (hr : w.2.2[n]? = some r) : 0 ≤ r.2.2.1 ∧ r.2.2.1 < 16 ∧ 0 ≤ r.2.2.2.1 ∧ r.2.2.2.1 < 16 ∧ ¬ r.2.2.1 = r.2.2.2.1 := by
  have := h.2.2 r (List.mem_of_getElem? hr)
  omega
theorem MW_get {τ : St} {w : AW} (hM : MW τ w) (hG : awG w) {n : Nat} (hn : n < w.2.2.length) : ∃ r, w.2.2[n]? = some r ∧ τ 13 n = r.1 ∧ τ 14 n = r.2.1 ∧ τ 15 n = r.2.2.1 ∧ τ 16 n = r.2.2.2.1 ∧ τ 17 n = r.2.2.2.2 ∧ i32 r.2.2.1 = r.2.2.1 ∧ i32 r.2.2.2.1 = r.2.2.2.1 ∧ ¬ r.2.2.1 = r.2.2.2.1 ∧ w.2.2.take (n + 1) = w.2.2.take n ++ [r] := by
  obtain ⟨r, hr⟩ : ∃ r, w.2.2[n]? = some r := ⟨w.2.2[n]'hn, List.getElem?_eq_getElem hn⟩
  have h1 := hM.2.2.2 n r hr
  have h2 := cr_rng hG hr
  refine ⟨r, hr, h1.1, h1.2.1, h1.2.2.1, h1.2.2.2.1, h1.2.2.2.2, i32_id (by omega) (by omega), i32_id (by omega) (by omega), h2.2.2.2.2, ?_⟩
  rw [List.take_add_one, hr]
  rfl
theorem op_link {σ τ : St} (hR : Rel σ τ) {a1 a2 : Int} (r1 : i32 a1 = a1) (r2 : i32 a2 = a2) : V_P_link σ a1 a2 (fun r σ' => V_M_link τ a1 a2 (fun r' τ' => i32 r = i32 r' ∧ Rel σ' τ')) := by
  obtain ⟨pl1, pl2, pl3⟩ := hR.pl
  obtain ⟨l1, l2, l3⟩ := len_GC hR
  have p1 := hR.2.1
  have bad : ¬ (0 ≤ a1 ∧ a1 < 2 * τ 1 0 ∧ 0 ≤ a2 ∧ a2 < 2 * τ 1 0 ∧ ¬ a1 = a2) → V_P_fail σ 1 (fun r σ' => V_M_link τ a1 a2 (fun r' τ' => i32 r = i32 r' ∧ Rel σ' τ')) := by
    intro hc
    refine both_fail (e := -1000000001) hR (by decide) (by decide) (by decide) (VM := fun τ Q => V_M_link τ a1 a2 Q) (fun Q hQ => ?_)
    unfold V_M_link
    refine MisThread_ok r1 rfl pl2 pl3 (fun z => ⟨fun w => absurd w n10, fun _ => ?_⟩) (fun _ => ⟨fun _ => hQ, fun w => absurd z00 w⟩)
    refine MisThread_ok r2 rfl pl2 pl3 (fun y => ⟨fun w => absurd w n10, fun _ => ?_⟩) (fun _ => ⟨fun _ => hQ, fun w => absurd z00 w⟩)
    rw [r1, r2]
    exact ⟨fun w => absurd (by omega) hc, fun _ => hQ⟩
  unfold V_P_link
  refine isThread_ok r1 pl1 pl2 pl3 (fun h1 => ⟨fun w => absurd w n10, fun _ => ?_⟩) (fun h1 => ⟨fun _ => bad (by omega), fun w => absurd z00 w⟩)
  refine isThread_ok r2 pl1 pl2 pl3 (fun h2 => ⟨fun w => absurd w n10, fun _ => ?_⟩) (fun h2 => ⟨fun _ => bad (by omega), fun w => absurd z00 w⟩)
  rw [r1, r2, l1]
  refine ⟨fun hne => ?_, fun he => bad (by omega)⟩
  refine think_ok hR (by omega) (by omega) (fun s hs c f => ?_)
  rw [i32_id (x := a1 * 16 + a2) (by omega) (by omega), i32_id (x := a2 * 16 + a1) (by omega) (by omega)]
  refine ⟨⟨by omega, by omega⟩, ⟨by omega, by omega⟩, ?_⟩
  have e1 : s 49 (a1 * 16 + a2) = cPs (alA (τ 1) ((stS (τ 1)).length : Int).toNat).2.2 a1 a2 := c.2.2.1.2 a1 a2 (by omega) (by omega) (by omega) (by omega)
  have e2 : s 49 (a2 * 16 + a1) = cPs (alA (τ 1) ((stS (τ 1)).length : Int).toNat).2.2 a2 a1 := c.2.2.1.2 a2 a1 (by omega) (by omega) (by omega) (by omega)
  rw [e1, e2]
  unfold V_M_link
  refine MisThread_ok r1 rfl pl2 pl3 (fun _ => ⟨fun w => absurd w n10, fun _ => ?_⟩) (fun w => absurd h1 w)
  refine MisThread_ok r2 rfl pl2 pl3 (fun _ => ⟨fun w => absurd w n10, fun _ => ?_⟩) (fun w => absurd h2 w)
  rw [r1, r2, l2]
  refine ⟨fun _ => ?_, fun w => absurd w hne⟩
  refine Mfirst' hR (by omega) (by omega) (fun t m g => ?_)
  obtain ⟨wg, wl⟩ := alA_g p1 ((stS (τ 1)).length : Int).toNat (by omega)
  obtain ⟨w, hw⟩ : ∃ w, w = alA (τ 1) ((stS (τ 1)).length : Int).toNat := ⟨_, rfl⟩
  rw [← hw] at m wg wl ⊢
  refine wl2 (fun i y u => u = t ∧ ∃ n : Nat, n ≤ w.2.2.length ∧ i = n ∧ y = cPs (w.2.2.take n) a1 a2 - cPs (w.2.2.take n) a2 a1) (fun i _ _ => (w.2.2.length - i).toNat) ⟨rfl, 0, by omega, rfl, by simp [cPs]⟩ ?_
  intro bk i y u hI hb
  obtain ⟨rfl, n, hn, rfl, rfl⟩ := hI
  rw [m.2.2.1, i32_id (x := (n : Int)) (by omega) (by omega), i32_id (x := (w.2.2.length : Int)) (by omega) (by omega)]
  refine ⟨fun hc => ?_, fun hc => ⟨⟨by omega, by omega⟩, ?_⟩⟩
  · have : n = w.2.2.length := by omega
    subst this
    rw [List.take_length]
    exact ⟨rfl, hs.fm (mw_sc g)⟩
  · obtain ⟨r, m1, m2, m3, m4, m5, m6, m7, m8, m9, m10⟩ := MW_get m wg (n := n) (by omega)
    rw [m4, m5, m7, m8]
    have go : ∀ v : Int, v = cPs (w.2.2.take n) a1 a2 - cPs (w.2.2.take n) a2 a1 + ((if r.2.2.1 = a1 ∧ r.2.2.2.1 = a2 then 1 else 0) - (if r.2.2.1 = a2 ∧ r.2.2.2.1 = a1 then 1 else 0)) → bk (n + 1) v u := fun v hv => hb _ _ _ ⟨rfl, n + 1, by omega, by omega, by rw [hv, m10, cPs_snoc, cPs_snoc]; omega⟩ (by omega)
    have j75 : ∀ x : Int, ¬ (r.2.2.1 = a1 ∧ r.2.2.2.1 = a2) → x = cPs (w.2.2.take n) a1 a2 - cPs (w.2.2.take n) a2 a1 → J_M_link_75 a1 a2 n bk x u := by
      intro x hx hxx
      unfold J_M_link_75
      rw [i32_id (x := (n : Int)) (by omega) (by omega), m4, m5, m7, m8, r1, r2]
      refine ⟨⟨by omega, by omega⟩, fun z => go _ ?_, fun z => ⟨⟨by omega, by omega⟩, fun z2 => go _ ?_, fun z2 => go _ ?_⟩⟩
      · rw [if_neg hx, if_neg (fun q => z q.1)]; omega
      · rw [if_neg hx, if_neg (fun q => z2 q.2)]; omega
      · rw [if_neg hx, if_pos ⟨z, z2⟩]; omega
    refine ⟨fun z => j75 _ (fun q => z q.1) rfl, fun z => ⟨⟨by omega, by omega⟩, fun z2 => j75 _ (fun q => z2 q.2) rfl, fun z2 => ?_⟩⟩
    unfold J_M_link_75
    rw [i32_id (x := (n : Int)) (by omega) (by omega), m4, m5, m7, m8, r1, r2]
    refine ⟨⟨by omega, by omega⟩, fun z3 => go _ ?_, fun z3 => absurd (by rw [← z3, z]) hne⟩
    rw [if_pos ⟨z, z2⟩, if_neg (fun q => z3 q.1)]; omega

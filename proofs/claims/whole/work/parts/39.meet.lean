-- MEET
def mtc (a b : Int) (r : CR) : Prop := (r.2.2.1 = a ∧ r.2.2.2.1 = b) ∨ (r.2.2.1 = b ∧ r.2.2.2.1 = a)
theorem cPs_pos {R : List CR} {a b : Int} : 0 < cPs R a b + cPs R b a ↔ ∃ r ∈ R, mtc a b r := by
  have e : ∀ x y : Int, 0 < cPs R x y ↔ ∃ r ∈ R, r.2.2.1 = x ∧ r.2.2.2.1 = y := by
    intro x y
    unfold cPs
    rw [Int.natCast_pos, List.countP_pos_iff]
    constructor
    · intro ⟨r, r1, r2⟩; exact ⟨r, r1, by simpa using r2⟩
    · intro ⟨r, r1, r2⟩; exact ⟨r, r1, by simpa using r2⟩
  have n1 : 0 ≤ cPs R a b := by unfold cPs; omega
  have n2 : 0 ≤ cPs R b a := by unfold cPs; omega
  constructor
  · intro h
    rcases (show 0 < cPs R a b ∨ 0 < cPs R b a by omega) with q | q
    · obtain ⟨r, r1, r2⟩ := (e a b).mp q
      exact ⟨r, r1, Or.inl r2⟩
    · obtain ⟨r, r1, r2⟩ := (e b a).mp q
      exact ⟨r, r1, Or.inr r2⟩
  · intro ⟨r, r1, r2⟩
    rcases r2 with q | q
    · have := (e a b).mpr ⟨r, r1, q⟩; omega
    · have := (e b a).mpr ⟨r, r1, q⟩; omega
theorem al_recs {N : Int → Int} (n : Nat) : ∃ L, (alA N (n + 1)).2.2 = (alA N n).2.2 ++ L ∧ ∀ r ∈ L, r.2.2.2.2 = n := by
  obtain ⟨L, l1, l2, l3⟩ := awS_recs N (alA N n) (kS (stS N) n) (gS (stS N) n) n
  exact ⟨L, l1, l2⟩
theorem al_pre {N : Int → Int} (n d : Nat) : ∃ L, (alA N (n + d)).2.2 = (alA N n).2.2 ++ L := by
  induction d with
  | zero => exact ⟨[], by rw [List.append_nil]; rfl⟩
  | succ d ih =>
    obtain ⟨L, hL⟩ := ih
    obtain ⟨M, hM, _⟩ := al_recs (N := N) (n + d)
    exact ⟨L ++ M, by rw [show n + (d + 1) = n + d + 1 by omega, hM, hL, List.append_assoc]⟩
theorem cPs_nn (R : List CR) (a b : Int) : 0 ≤ cPs R a b ∧ cPs R a b ≤ R.length := by
  unfold cPs
  have := List.countP_le_length (p := fun r : CR => decide (r.2.2.1 = a ∧ r.2.2.2.1 = b)) (l := R)
  omega
theorem op_meet {σ τ : St} (hR : Rel σ τ) {a1 a2 : Int} (r1 : i32 a1 = a1) (r2 : i32 a2 = a2) : V_P_meet σ a1 a2 (fun r σ' => V_M_meet τ a1 a2 (fun r' τ' => i32 r = i32 r' ∧ Rel σ' τ')) := by
  obtain ⟨pl1, pl2, pl3⟩ := hR.pl
  obtain ⟨l1, l2, l3⟩ := len_GC hR
  have p1 := hR.2.1
  have bad : ¬ (0 ≤ a1 ∧ a1 < 2 * τ 1 0 ∧ 0 ≤ a2 ∧ a2 < 2 * τ 1 0 ∧ ¬ a1 = a2) → V_P_fail σ 1 (fun r σ' => V_M_meet τ a1 a2 (fun r' τ' => i32 r = i32 r' ∧ Rel σ' τ')) := by
    intro hc
    refine both_fail (e := -1000000001) hR (by decide) (by decide) (by decide) (VM := fun τ Q => V_M_meet τ a1 a2 Q) (fun Q hQ => ?_)
    unfold V_M_meet
    refine MisThread_ok r1 rfl pl2 pl3 (fun z => ⟨fun w => absurd w n10, fun _ => ?_⟩) (fun _ => ⟨fun _ => hQ, fun w => absurd z00 w⟩)
    refine MisThread_ok r2 rfl pl2 pl3 (fun y => ⟨fun w => absurd w n10, fun _ => ?_⟩) (fun _ => ⟨fun _ => hQ, fun w => absurd z00 w⟩)
    rw [r1, r2]
    exact ⟨fun w => absurd (by omega) hc, fun _ => hQ⟩
  unfold V_P_meet
  refine isThread_ok r1 pl1 pl2 pl3 (fun h1 => ⟨fun w => absurd w n10, fun _ => ?_⟩) (fun h1 => ⟨fun _ => bad (by omega), fun w => absurd z00 w⟩)
  refine isThread_ok r2 pl1 pl2 pl3 (fun h2 => ⟨fun w => absurd w n10, fun _ => ?_⟩) (fun h2 => ⟨fun _ => bad (by omega), fun w => absurd z00 w⟩)
  rw [r1, r2]
  refine ⟨fun hne => ?_, fun he => bad (by omega)⟩
  -- the reference: the first that matches
  have mgo : ∀ Q : Int → St → Prop, (∀ v, frm mwK mwJ τ v → (∀ r ∈ (alA (τ 1) (stS (τ 1)).length).2.2, ¬ mtc a1 a2 r) → V_M_errs v (-1000000002) Q) → (∀ v, frm mwK mwJ τ v → ∀ (n : Nat) (r : CR), (alA (τ 1) (stS (τ 1)).length).2.2[n]? = some r → mtc a1 a2 r → (∀ (j : Nat) (r' : CR), j < n → (alA (τ 1) (stS (τ 1)).length).2.2[j]? = some r' → ¬ mtc a1 a2 r') → Q r.2.2.2.2 v) → V_M_meet τ a1 a2 Q := by
    intro Q q1 q2
    unfold V_M_meet
    refine MisThread_ok r1 rfl pl2 pl3 (fun _ => ⟨fun w => absurd w n10, fun _ => ?_⟩) (fun w => absurd h1 w)
    refine MisThread_ok r2 rfl pl2 pl3 (fun _ => ⟨fun w => absurd w n10, fun _ => ?_⟩) (fun w => absurd h2 w)
    rw [r1, r2, l2]
    refine ⟨fun _ => ?_, fun w => absurd w hne⟩
    refine Mfirst' hR (by omega) (by omega) (fun t m g => ?_)
    rw [show ((stS (τ 1)).length : Int).toNat = (stS (τ 1)).length by omega] at m
    obtain ⟨wg, wl⟩ := alA_g p1 (stS (τ 1)).length (by omega)
    obtain ⟨w, hw⟩ : ∃ w, w = alA (τ 1) (stS (τ 1)).length := ⟨_, rfl⟩
    rw [← hw] at m wg wl q1 q2
    refine wl1 (fun i u => u = t ∧ ∃ n : Nat, n ≤ w.2.2.length ∧ i = n ∧ ∀ (j : Nat) (r' : CR), j < n → w.2.2[j]? = some r' → ¬ mtc a1 a2 r') (fun i _ => (w.2.2.length - i).toNat) ⟨rfl, 0, by omega, rfl, fun j r' h => by omega⟩ ?_
    intro bk i u hI hb
    obtain ⟨rfl, n, hn, rfl, i3⟩ := hI
    rw [m.2.2.1, i32_id (x := (n : Int)) (by omega) (by omega), i32_id (x := (w.2.2.length : Int)) (by omega) (by omega)]
    refine ⟨fun hc => q1 u g (fun r hr => ?_), fun hc => ⟨⟨by omega, by omega⟩, ?_⟩⟩
    · obtain ⟨j, hj⟩ := List.mem_iff_getElem?.mp hr
      refine i3 j r ?_ hj
      have := (List.getElem?_eq_some_iff.mp hj).1
      omega
    · obtain ⟨r, m1, m2, m3, m4, m5, m6, m7, m8, m9, m10⟩ := MW_get m wg (n := n) (by omega)
      rw [m4, m5, m6, m7, m8]
      have yes : mtc a1 a2 r → Q r.2.2.2.2 u := fun h => q2 u g n r m1 h i3
      have no : ¬ mtc a1 a2 r → bk (n + 1) u := fun h => hb _ _ ⟨rfl, n + 1, by omega, by omega, fun j r' hj hr' => by
        by_cases c : j = n
        · rw [c, m1] at hr'
          injection hr' with e
          rw [← e]
          exact h
        · exact i3 j r' (by omega) hr'⟩ (by omega)
      have j66 : ¬ (r.2.2.1 = a1 ∧ r.2.2.2.1 = a2) → J_M_meet_66 a1 a2 Q n bk u := by
        intro hx
        unfold J_M_meet_66
        rw [i32_id (x := (n : Int)) (by omega) (by omega), m4, m5, m6, m7, m8, r1, r2]
        refine ⟨⟨by omega, by omega⟩, fun z => no (fun q => ?_), fun z => ⟨⟨by omega, by omega⟩, fun z2 => no (fun q => ?_), fun z2 => ⟨⟨by omega, by omega⟩, yes (Or.inr ⟨z, z2⟩)⟩⟩⟩
        · rcases q with q | q
          · exact hx q
          · exact z q.1
        · rcases q with q | q
          · exact hx q
          · exact z2 q.2
      exact ⟨fun z => j66 (fun q => z q.1), fun z => ⟨⟨by omega, by omega⟩, fun z2 => ⟨⟨by omega, by omega⟩, yes (Or.inl ⟨z, z2⟩)⟩, fun z2 => j66 (fun q => z2 q.2)⟩⟩
  refine wl1 (fun x u => Rel u τ ∧ ∃ n : Nat, n ≤ (stS (τ 1)).length ∧ x = n ∧ ∀ r ∈ (alA (τ 1) n).2.2, ¬ mtc a1 a2 r) (fun x _ => ((stS (τ 1)).length - x).toNat) ⟨hR, 0, by omega, rfl, fun r hr => by cases hr⟩ ?_
  intro bk x u hI hb
  obtain ⟨hRu, n, hn, rfl, i3⟩ := hI
  rw [(len_GC hRu).1, i32_id (x := (n : Int)) (by omega) (by omega), i32_id (x := ((stS (τ 1)).length : Int)) (by omega) (by omega)]
  refine ⟨fun hc => ?_, fun hc => ?_⟩
  · have : n = (stS (τ 1)).length := by omega
    rw [this] at i3
    refine fail_ok (by decide) (by decide) (mgo _ (fun v f _ => errs_ok (k := 2) (by decide) (by decide) (by decide) ⟨by decide, (hRu.fm (mw_sc f)).err (by decide) (by decide)⟩) (fun v f j r hj hm _ => absurd hm (i3 r (List.mem_of_getElem? hj))))
  · refine think_ok hRu (n := (n : Int) + 1) (by omega) (by omega) (fun s hs c f => ?_)
    rw [show ((n : Int) + 1).toNat = n + 1 by omega] at c
    unfold V_Weave_haveCrossed
    rw [i32_id (x := a1 * 16 + a2) (by omega) (by omega), i32_id (x := a2 * 16 + a1) (by omega) (by omega)]
    have e1 : s 49 (a1 * 16 + a2) = cPs (alA (τ 1) (n + 1)).2.2 a1 a2 := c.2.2.1.2 a1 a2 (by omega) (by omega) (by omega) (by omega)
    have e2 : s 49 (a2 * 16 + a1) = cPs (alA (τ 1) (n + 1)).2.2 a2 a1 := c.2.2.1.2 a2 a1 (by omega) (by omega) (by omega) (by omega)
    have b1 := cPs_nn (alA (τ 1) (n + 1)).2.2 a1 a2
    have b2 := cPs_nn (alA (τ 1) (n + 1)).2.2 a2 a1
    have b3 := (alA_g p1 (n + 1) (by omega)).2
    show _ ∧ _ ∧ (i32 (s 49 (a1 * 16 + a2) + s 49 (a2 * 16 + a1)) ≤ 0 → _) ∧ (0 < i32 (s 49 (a1 * 16 + a2) + s 49 (a2 * 16 + a1)) → _)
    rw [e1, e2, i32_id (x := cPs (alA (τ 1) (n + 1)).2.2 a1 a2 + cPs (alA (τ 1) (n + 1)).2.2 a2 a1) (by omega) (by omega)]
    refine ⟨⟨by omega, by omega⟩, ⟨by omega, by omega⟩, fun hd => ⟨fun _ => ?_, fun w => absurd z00 w⟩, fun hd => ⟨fun w => absurd w n10, fun _ => ?_⟩⟩
    · refine hb _ _ ⟨hs, n + 1, by omega, by omega, fun r hr hm => ?_⟩ (by omega)
      have := cPs_pos.mpr ⟨r, hr, hm⟩
      omega
    · obtain ⟨r0, q1, q2⟩ := cPs_pos.mp hd
      obtain ⟨L, hL1, hL2⟩ := al_recs (N := τ 1) n
      obtain ⟨M, hM⟩ := al_pre (N := τ 1) (n + 1) ((stS (τ 1)).length - (n + 1))
      rw [show n + 1 + ((stS (τ 1)).length - (n + 1)) = (stS (τ 1)).length by omega] at hM
      refine mgo _ (fun v f hno => ?_) (fun v f j r hj hm hbef => ⟨?_, hs.fm (mw_sc f)⟩)
      · exfalso
        refine hno r0 ?_ q2
        rw [hM]
        exact List.mem_append_left _ q1
      · -- the first that matches is among this stitch's own
        have hge : (alA (τ 1) n).2.2.length ≤ j := by
          by_cases cj : (alA (τ 1) n).2.2.length ≤ j
          · exact cj
          · exfalso
            rw [hM, hL1, List.append_assoc, List.getElem?_append_left (by omega)] at hj
            exact i3 r (List.mem_of_getElem? hj) hm
        have hlt : j < (alA (τ 1) (n + 1)).2.2.length := by
          by_cases cj : j < (alA (τ 1) (n + 1)).2.2.length
          · exact cj
          · exfalso
            obtain ⟨j0, hj0⟩ := List.mem_iff_getElem?.mp q1
            have hj0l := (List.getElem?_eq_some_iff.mp hj0).1
            refine hbef j0 r0 (by omega) ?_ q2
            rw [hM, List.getElem?_append_left hj0l]
            exact hj0
        rw [hM, List.getElem?_append_left hlt, hL1, List.getElem?_append_right hge] at hj
        rw [hL2 r (List.mem_of_getElem? hj)]
-- LACKS
theorem Mnext_al {σ τ u : St} (hR : Rel σ τ) {n : Nat} {Q : St → Prop} (hn : n < (stS (τ 1)).length) (hf : frm mwK mwJ τ u) (m : MW u (alA (τ 1) n)) (k : ∀ v, MW v (alA (τ 1) (n + 1)) → frm mwK mwJ τ v → Q v) : V_M_works u n 1 Q := by
  have p1 := hR.2.1
  have p4 := hR.2.2.2.2.1
  obtain ⟨l1, l2, l3⟩ := len_GC hR
  have hst := plan_st p1
  have hsr := hst.2.2.1 (n : Int) (by omega) (by omega)
  obtain ⟨g1, g2⟩ := GM_at p4 (s := (n : Int)) (by omega) (by omega)
  have t1 : u 1 = τ 1 := hf.1 1 (by decide) (by decide)
  have t6 : u 6 n = gS (stS (τ 1)) n := by rw [hf.1 6 (by decide) (by decide)]; exact g1
  have t7 : u 7 n = kS (stS (τ 1)) n := by rw [hf.1 7 (by decide) (by decide)]; exact g2
  obtain ⟨wg, wl⟩ := alA_g p1 n (by omega)
  refine Mworks_ok m wg.1 (by omega) (by omega) (by rw [t7]; exact hsr.1) (by rw [t7]; exact hsr.2.1) (by rw [t6]; exact hsr.2.2.1) (by rw [t6]; exact hsr.2.2.2) (by rw [t1, t7]; exact hst.2.2.2 _ hsr.1 hsr.2.1) (by omega) (fun v m2 f2 => ?_)
  rw [t1, t6, t7] at m2
  exact k v m2 (hf.tr f2)
def lkA (N : Int → Int) (n : Nat) : Prop := ∀ t, 0 ≤ t → t < 16 → (alA N n).2.1 t ≤ N (140 + t)
theorem op_lacks {σ τ : St} (hR : Rel σ τ) {a1 : Int} (r1 : i32 a1 = a1) : V_P_lacks σ a1 (fun r σ' => V_M_lacks τ a1 (fun r' τ' => i32 r = i32 r' ∧ Rel σ' τ')) := by
  obtain ⟨pl1, pl2, pl3⟩ := hR.pl
  obtain ⟨l1, l2, l3⟩ := len_GC hR
  have p1 := hR.2.1
  have bad : ¬ (0 ≤ a1 ∧ a1 ≤ 1) → V_P_fail σ 1 (fun r σ' => V_M_lacks τ a1 (fun r' τ' => i32 r = i32 r' ∧ Rel σ' τ')) := by
    intro hc
    refine both_fail (e := -1000000001) hR (by decide) (by decide) (by decide) (VM := fun τ Q => V_M_lacks τ a1 Q) (fun Q hQ => ?_)
    unfold V_M_lacks
    rw [r1]
    exact in_ok (i64_of32 r1) k64_0 k64_1 (fun y => absurd y hc) (fun _ => ⟨fun w => absurd z00 w, fun _ => hQ⟩)
  unfold V_P_lacks
  rw [r1]
  refine ⟨fun z => bad (by omega), fun z => ⟨fun y => ?_, fun y => bad (by omega)⟩⟩
  have N0 : ∀ n, n ≤ (stS (τ 1)).length → ∀ t, 0 ≤ (alA (τ 1) n).2.1 t ∧ (alA (τ 1) n).2.1 t ≤ 2000 := fun n h t => alA_use p1 n h t
  -- the reference: n stitches lack nothing
  have mgo : ∀ (n : Nat) (Q : Int → St → Prop), n ≤ (stS (τ 1)).length → (∀ j, 1 ≤ j → j ≤ n → lkA (τ 1) j) → (n = (stS (τ 1)).length → ∀ v, frm mwK mwJ τ v → V_M_errs v (-1000000002) Q) → (n < (stS (τ 1)).length → ∃ t, 0 ≤ t ∧ t < 2 * τ 1 0 ∧ τ 1 (140 + t) < (alA (τ 1) (n + 1)).2.1 t ∧ (∀ q, 0 ≤ q → q < t → (alA (τ 1) (n + 1)).2.1 q ≤ τ 1 (140 + q)) ∧ ∀ v, frm mwK mwJ τ v → ((¬ a1 = 0 → Q t v) ∧ (a1 = 0 → Q n v))) → V_M_lacks τ a1 Q := by
    intro n Q hn hlk hend hmid
    unfold V_M_lacks
    rw [r1]
    refine in_ok (i64_of32 r1) k64_0 k64_1 (fun _ => ⟨fun _ => ?_, fun w => absurd w n10⟩) (fun w => absurd ⟨z, y⟩ w)
    refine Mbegins_ok (fun t0 m0 f0 => ?_)
    refine wl1 (fun i u => ∃ j : Nat, j ≤ n ∧ i = j ∧ MW u (alA (τ 1) j) ∧ frm mwK mwJ τ u) (fun i _ => (n - i).toNat) ⟨0, by omega, rfl, m0, f0⟩ ?_
    intro bk i u hI hb
    obtain ⟨j, hj, rfl, i3, i4⟩ := hI
    rw [i4.2 5 (by decide), l2, i32_id (x := (j : Int)) (by omega) (by omega), i32_id (x := ((stS (τ 1)).length : Int)) (by omega) (by omega)]
    refine ⟨fun hc => hend (by omega) u i4, fun hc => ?_⟩
    refine Mnext_al hR (by omega) i4 i3 (fun v mv fv => ?_)
    have v1 : v 1 = τ 1 := fv.1 1 (by decide) (by decide)
    -- the threads one by one
    have scan : ∀ lim : Int, 0 ≤ lim → lim ≤ 2 * τ 1 0 → (∀ q, 0 ≤ q → q < lim → (alA (τ 1) (j + 1)).2.1 q ≤ τ 1 (140 + q)) → (lim = 2 * τ 1 0 → bk (j + 1) v) → (lim < 2 * τ 1 0 → τ 1 (140 + lim) < (alA (τ 1) (j + 1)).2.1 lim ∧ ((¬ a1 = 0 → Q lim v) ∧ (a1 = 0 → Q j v))) → WL1 (fun (bk12 : Int → St → Prop) (x3_10 : Int) (σ11 : St) => V_M_threads σ11 (fun (r14 : Int) (σ13 : St) => ((i32 r14 ≤ i32 x3_10 → bk ((j : Int) + 1) σ13) ∧ (i32 x3_10 < i32 r14 → (0 ≤ i32 x3_10 ∧ i32 x3_10 < 16) ∧ (0 ≤ i32 (140 + x3_10) ∧ i32 (140 + x3_10) < 204) ∧ ((i32 (σ13 12 (i32 x3_10)) ≤ i32 (σ13 1 (i32 (140 + x3_10))) → bk12 (x3_10 + 1) σ13) ∧ (i32 (σ13 1 (i32 (140 + x3_10))) < i32 (σ13 12 (i32 x3_10)) → ((¬ a1 = 0 → Q x3_10 σ13) ∧ (a1 = 0 → Q (j : Int) σ13)))))))) 0 v := by
      intro lim lim0 lim1 hlim he hm
      refine wl1 (fun i u => u = v ∧ 0 ≤ i ∧ i ≤ lim) (fun i _ => (lim - i).toNat) ⟨rfl, by omega, by omega⟩ ?_
      intro bk2 i u hI hb2
      obtain ⟨rfl, i1, i2⟩ := hI
      dsimp only [V_M_threads]
      rw [v1, i32_id (x := i) (by omega) (by omega), i32_id (x := 2 * τ 1 0) (by omega) (by omega), i32_id (x := 140 + i) (by omega) (by omega)]
      refine ⟨fun hd => he (by omega), fun hd => ⟨⟨by omega, by omega⟩, ⟨by omega, by omega⟩, ?_⟩⟩
      have hu := N0 (j + 1) (by omega) i
      have hw := p1.2.2.2.2.2.1 i i1 (by omega)
      rw [mv.2.1 i i1 (by omega), i32_id (x := (alA (τ 1) (j + 1)).2.1 i) (by omega) (by omega), i32_id (x := τ 1 (140 + i)) (by omega) (by omega)]
      refine ⟨fun h => ?_, fun h => ?_⟩
      · have hil : i < lim := by
          by_cases c : i = lim
          · have := (hm (by omega)).1
            rw [← c] at this
            omega
          · omega
        exact hb2 _ _ ⟨rfl, by omega, by omega⟩ (by omega)
      · have hil : i = lim := by
          by_cases c : i = lim
          · exact c
          · have := hlim i i1 (by omega)
            omega
        rw [hil]
        exact (hm (by omega)).2
    by_cases c : j < n
    · refine scan (2 * τ 1 0) (by omega) (by omega) (fun q a b => hlk (j + 1) (by omega) (by omega) q a (by omega)) (fun _ => hb _ _ ⟨j + 1, by omega, by omega, mv, fv⟩ (by omega)) (fun w => by omega)
    · have hjn : j = n := by omega
      rw [hjn] at mv scan ⊢
      obtain ⟨t, t0, t1, t2, t3, t4⟩ := hmid (by omega)
      exact scan t t0 (by omega) t3 (fun w => by omega) (fun _ => ⟨t2, t4 v fv⟩)
  refine wl1 (fun x u => Rel u τ ∧ ∃ n : Nat, n ≤ (stS (τ 1)).length ∧ x = n ∧ ∀ j, 1 ≤ j → j ≤ n → lkA (τ 1) j) (fun x _ => ((stS (τ 1)).length - x).toNat) ⟨hR, 0, by omega, rfl, fun j a b => by omega⟩ ?_
  intro bk x u hI hb
  obtain ⟨hRu, n, hn, rfl, i3⟩ := hI
  rw [(len_GC hRu).1, i32_id (x := (n : Int)) (by omega) (by omega), i32_id (x := ((stS (τ 1)).length : Int)) (by omega) (by omega)]
  refine ⟨fun hc => ?_, fun hc => ?_⟩
  · refine fail_ok (by decide) (by decide) (mgo n _ hn i3 (fun _ v f => errs_ok (k := 2) (by decide) (by decide) (by decide) ⟨by decide, (hRu.fm (mw_sc f)).err (by decide) (by decide)⟩) (fun w => by omega))
  · refine think_ok hRu (n := (n : Int) + 1) (by omega) (by omega) (fun s hs c f => ?_)
    rw [show ((n : Int) + 1).toNat = n + 1 by omega] at c
    have hwd : ∀ t, 0 ≤ t → t < 16 → s 5 t = τ 1 (140 + t) ∧ 0 ≤ τ 1 (140 + t) ∧ τ 1 (140 + t) ≤ 9999 := fun t a b => ⟨hs.2.2.1.2.2.2.2.1 t a b, p1.2.2.2.2.2.1 t a b⟩
    have wb := alA_b p1 (n + 1) (by omega)
    refine lack_ok (N := τ 1) (u := (alA (τ 1) (n + 1)).2.1) (fun t a b => ⟨(c.2.2.1.1 t a b).1, (N0 (n + 1) (by omega) t).1, by have := (N0 (n + 1) (by omega) t).2; omega⟩) hwd (fun hall => ⟨fun _ => ?_, fun w => absurd w (by decide)⟩) (fun r q1 q2 q3 q4 => ⟨fun w => ?_, fun _ => ?_⟩)
    · refine hb _ _ ⟨hs, n + 1, by omega, by omega, fun j a b => ?_⟩ (by omega)
      by_cases cj : j = n + 1
      · rw [cj]; exact hall
      · exact i3 j a (by omega)
    · rw [i32_id (x := r) (by omega) (by omega)] at w
      omega
    · have hr2 : r < 2 * τ 1 0 := by
        by_cases cr : r < 2 * τ 1 0
        · exact cr
        · exfalso
          have := wb.2.2 r (by omega)
          have := (p1.2.2.2.2.2.1 r q1 q2).1
          omega
      refine ⟨fun hne => mgo n _ hn i3 (fun w => by omega) (fun _ => ⟨r, q1, hr2, q3, q4, fun v fv => ⟨fun _ => ⟨rfl, hs.fm (mw_sc fv)⟩, fun w => absurd w hne⟩⟩), fun he => mgo n _ hn i3 (fun w => by omega) (fun _ => ⟨r, q1, hr2, q3, q4, fun v fv => ⟨fun w => absurd he w, fun _ => ⟨rfl, hs.fm (mw_sc fv)⟩⟩⟩)⟩
